def kL24 : List (Nat × Instr) := [(1156, .aload_n 1), (1157, .aload_n 0), (1158, .iload_n 3), (1159, .iconst 1), (1160, .iadd), (1161, .iaload), (1162, .aload_n 0), (1163, .iload_n 3), (1164, .iconst 2), (1165, .iadd), (1166, .iaload), (1167, .ifCond .eq 7), (1170, .iconst 1), (1171, .goto 4), (1174, .iconst 0), (1175, .aload_n 0), (1176, .iload_n 3), (1177, .iconst 3), (1178, .iadd), (1179, .iaload), (1180, .invokevirtual 116), (1183, .aload_n 2), (1184, .aload_n 0), (1185, .iload_n 3), (1186, .iconst 1), (1187, .iadd), (1188, .iaload), (1189, .aload_n 0), (1190, .iload_n 3), (1191, .iconst 2), (1192, .iadd), (1193, .iaload), (1194, .ifCond .eq 7), (1197, .iconst 1), (1198, .goto 4), (1201, .iconst 0), (1202, .aload_n 0), (1203, .iload_n 3), (1204, .iconst 3), (1205, .iadd), (1206, .iaload), (1207, .invokevirtual 119), (1210, .if_icmp .eq 980), (1213, .iconst 0), (1214, .ireturn)]
theorem qL24 : zdc code kL24 = true := by decide +kernel
theorem lL_116 : zLv "UnevenWaxLaw" 116 3 mX10_between := zLv_of 1060 110 134 1061 1062 rfl (by decide +kernel) (by decide +kernel)
theorem lL_119 : zLv "UnevenWaxLaw" 119 3 mX11_between := zLv_of 1721 121 251 1722 1723 rfl (by decide +kernel) (by decide +kernel)
theorem lc_24 {E : LE} {cells slots k : Nat} {h : MH} {S : SS} (F : LF E) (hO : sO S) (hr : zRf h) (hC : sC S h) (hM : sM S h) (hk : 6 * k + 6 ≤ lL E) (hL : lL E ≤ 3072) (hm : cells + 31 ≤ 600000 ∧ slots + 751 ≤ 7302250) (kk : LK E cells slots k) : JL E cells slots 1156 (lls k) [] h := by
  obtain ⟨p1, p2⟩ := p_between (S := S) (x := (lX E (6 * k + 1))) (out := !((lX E (6 * k + 2)) == 0)) (t := (lX E (6 * k + 3))) hO
  refine L_aload_n F (zat qL24 0 (by rfl)) rfl ?_
  refine L_arg F qL24 1 (by rfl) (by rfl) (by rfl) (by rfl) (by rfl) (j := 1) rfl (by omega) hL ?_
  refine L_arg F qL24 6 (by rfl) (by rfl) (by rfl) (by rfl) (by rfl) (j := 2) rfl (by omega) hL ?_
  refine L_bool F qL24 11 (by rfl) (by rfl) (by rfl) (by rfl) ?_
  refine L_arg F qL24 15 (by rfl) (by rfl) (by rfl) (by rfl) (by rfl) (j := 3) rfl (by omega) hL ?_
  refine L_callC F (zat qL24 20 (by rfl)) lL_116 rfl rfl (as := [.inl (lX E (6 * k + 1)), .inl (bI (!((lX E (6 * k + 2)) == 0))), .inl (lX E (6 * k + 3))]) ⟨by omega, by omega⟩ hr hC hM p1 (fun h1 r1 o1 c1 m1 => ?_)
  refine L_aload_n F (zat qL24 21 (by rfl)) rfl ?_
  refine L_arg F qL24 22 (by rfl) (by rfl) (by rfl) (by rfl) (by rfl) (j := 1) rfl (by omega) hL ?_
  refine L_arg F qL24 27 (by rfl) (by rfl) (by rfl) (by rfl) (by rfl) (j := 2) rfl (by omega) hL ?_
  refine L_bool F qL24 32 (by rfl) (by rfl) (by rfl) (by rfl) ?_
  refine L_arg F qL24 36 (by rfl) (by rfl) (by rfl) (by rfl) (by rfl) (j := 3) rfl (by omega) hL ?_
  refine L_callM F (zat qL24 41 (by rfl)) lL_119 rfl rfl (as := [.inl (lX E (6 * k + 1)), .inl (bI (!((lX E (6 * k + 2)) == 0))), .inl (lX E (6 * k + 3))]) ⟨by omega, by omega⟩ r1 c1 m1 p2 (fun h2 r2 c2 m2 => ?_)
  exact L_same F qL24 42 (by rfl) (by decide) (L_wid (by omega) (by omega) (kk _ h2 r2 o1 c2 m2))
def kL25 : List (Nat × Instr) := [(1215, .aload_n 1), (1216, .aload_n 0), (1217, .iload_n 3), (1218, .iconst 1), (1219, .iadd), (1220, .iaload), (1221, .aload_n 0), (1222, .iload_n 3), (1223, .iconst 2), (1224, .iadd), (1225, .iaload), (1226, .ifCond .eq 7), (1229, .iconst 1), (1230, .goto 4), (1233, .iconst 0), (1234, .aload_n 0), (1235, .iload_n 3), (1236, .iconst 3), (1237, .iadd), (1238, .iaload), (1239, .invokevirtual 120), (1242, .aload_n 2), (1243, .aload_n 0), (1244, .iload_n 3), (1245, .iconst 1), (1246, .iadd), (1247, .iaload), (1248, .aload_n 0), (1249, .iload_n 3), (1250, .iconst 2), (1251, .iadd), (1252, .iaload), (1253, .ifCond .eq 7), (1256, .iconst 1), (1257, .goto 4), (1260, .iconst 0), (1261, .aload_n 0), (1262, .iload_n 3), (1263, .iconst 3), (1264, .iadd), (1265, .iaload), (1266, .invokevirtual 123), (1269, .if_icmp .eq 921), (1272, .iconst 0), (1273, .ireturn)]
theorem qL25 : zdc code kL25 = true := by decide +kernel
theorem lL_120 : zLv "UnevenWaxLaw" 120 3 mX10_least := zLv_of 1064 110 135 1065 1066 rfl (by decide +kernel) (by decide +kernel)
theorem lL_123 : zLv "UnevenWaxLaw" 123 3 mX11_least := zLv_of 1725 121 252 1726 1727 rfl (by decide +kernel) (by decide +kernel)
theorem lc_25 {E : LE} {cells slots k : Nat} {h : MH} {S : SS} (F : LF E) (hO : sO S) (hr : zRf h) (hC : sC S h) (hM : sM S h) (hk : 6 * k + 6 ≤ lL E) (hL : lL E ≤ 3072) (hm : cells + 31 ≤ 600000 ∧ slots + 751 ≤ 7302250) (kk : LK E cells slots k) : JL E cells slots 1215 (lls k) [] h := by
  obtain ⟨p1, p2⟩ := p_least (S := S) (x := (lX E (6 * k + 1))) (out := !((lX E (6 * k + 2)) == 0)) (w := (lX E (6 * k + 3))) hO
  refine L_aload_n F (zat qL25 0 (by rfl)) rfl ?_
  refine L_arg F qL25 1 (by rfl) (by rfl) (by rfl) (by rfl) (by rfl) (j := 1) rfl (by omega) hL ?_
  refine L_arg F qL25 6 (by rfl) (by rfl) (by rfl) (by rfl) (by rfl) (j := 2) rfl (by omega) hL ?_
  refine L_bool F qL25 11 (by rfl) (by rfl) (by rfl) (by rfl) ?_
  refine L_arg F qL25 15 (by rfl) (by rfl) (by rfl) (by rfl) (by rfl) (j := 3) rfl (by omega) hL ?_
  refine L_callC F (zat qL25 20 (by rfl)) lL_120 rfl rfl (as := [.inl (lX E (6 * k + 1)), .inl (bI (!((lX E (6 * k + 2)) == 0))), .inl (lX E (6 * k + 3))]) ⟨by omega, by omega⟩ hr hC hM p1 (fun h1 r1 o1 c1 m1 => ?_)
  refine L_aload_n F (zat qL25 21 (by rfl)) rfl ?_
  refine L_arg F qL25 22 (by rfl) (by rfl) (by rfl) (by rfl) (by rfl) (j := 1) rfl (by omega) hL ?_
  refine L_arg F qL25 27 (by rfl) (by rfl) (by rfl) (by rfl) (by rfl) (j := 2) rfl (by omega) hL ?_
  refine L_bool F qL25 32 (by rfl) (by rfl) (by rfl) (by rfl) ?_
  refine L_arg F qL25 36 (by rfl) (by rfl) (by rfl) (by rfl) (by rfl) (j := 3) rfl (by omega) hL ?_
  refine L_callM F (zat qL25 41 (by rfl)) lL_123 rfl rfl (as := [.inl (lX E (6 * k + 1)), .inl (bI (!((lX E (6 * k + 2)) == 0))), .inl (lX E (6 * k + 3))]) ⟨by omega, by omega⟩ r1 c1 m1 p2 (fun h2 r2 c2 m2 => ?_)
  exact L_same F qL25 42 (by rfl) (by decide) (L_wid (by omega) (by omega) (kk _ h2 r2 o1 c2 m2))
def kL26 : List (Nat × Instr) := [(1274, .aload_n 1), (1275, .aload_n 0), (1276, .iload_n 3), (1277, .iconst 1), (1278, .iadd), (1279, .iaload), (1280, .aload_n 0), (1281, .iload_n 3), (1282, .iconst 2), (1283, .iadd), (1284, .iaload), (1285, .ifCond .eq 7), (1288, .iconst 1), (1289, .goto 4), (1292, .iconst 0), (1293, .aload_n 0), (1294, .iload_n 3), (1295, .iconst 3), (1296, .iadd), (1297, .iaload), (1298, .invokevirtual 124), (1301, .aload_n 2), (1302, .aload_n 0), (1303, .iload_n 3), (1304, .iconst 1), (1305, .iadd), (1306, .iaload), (1307, .aload_n 0), (1308, .iload_n 3), (1309, .iconst 2), (1310, .iadd), (1311, .iaload), (1312, .ifCond .eq 7), (1315, .iconst 1), (1316, .goto 4), (1319, .iconst 0), (1320, .aload_n 0), (1321, .iload_n 3), (1322, .iconst 3), (1323, .iadd), (1324, .iaload), (1325, .invokevirtual 127), (1328, .if_icmp .eq 862), (1331, .iconst 0), (1332, .ireturn)]
theorem qL26 : zdc code kL26 = true := by decide +kernel
theorem lL_124 : zLv "UnevenWaxLaw" 124 3 mX10_fewest := zLv_of 1068 110 136 1069 1070 rfl (by decide +kernel) (by decide +kernel)
theorem lL_127 : zLv "UnevenWaxLaw" 127 3 mX11_fewest := zLv_of 1732 121 254 1733 1734 rfl (by decide +kernel) (by decide +kernel)
theorem lc_26 {E : LE} {cells slots k : Nat} {h : MH} {S : SS} (F : LF E) (hO : sO S) (hr : zRf h) (hC : sC S h) (hM : sM S h) (hk : 6 * k + 6 ≤ lL E) (hL : lL E ≤ 3072) (hm : cells + 31 ≤ 600000 ∧ slots + 751 ≤ 7302250) (kk : LK E cells slots k) : JL E cells slots 1274 (lls k) [] h := by
  obtain ⟨p1, p2⟩ := p_fewest (S := S) (x := (lX E (6 * k + 1))) (out := !((lX E (6 * k + 2)) == 0)) (t := (lX E (6 * k + 3))) hO
  refine L_aload_n F (zat qL26 0 (by rfl)) rfl ?_
  refine L_arg F qL26 1 (by rfl) (by rfl) (by rfl) (by rfl) (by rfl) (j := 1) rfl (by omega) hL ?_
  refine L_arg F qL26 6 (by rfl) (by rfl) (by rfl) (by rfl) (by rfl) (j := 2) rfl (by omega) hL ?_
  refine L_bool F qL26 11 (by rfl) (by rfl) (by rfl) (by rfl) ?_
  refine L_arg F qL26 15 (by rfl) (by rfl) (by rfl) (by rfl) (by rfl) (j := 3) rfl (by omega) hL ?_
  refine L_callC F (zat qL26 20 (by rfl)) lL_124 rfl rfl (as := [.inl (lX E (6 * k + 1)), .inl (bI (!((lX E (6 * k + 2)) == 0))), .inl (lX E (6 * k + 3))]) ⟨by omega, by omega⟩ hr hC hM p1 (fun h1 r1 o1 c1 m1 => ?_)
  refine L_aload_n F (zat qL26 21 (by rfl)) rfl ?_
  refine L_arg F qL26 22 (by rfl) (by rfl) (by rfl) (by rfl) (by rfl) (j := 1) rfl (by omega) hL ?_
  refine L_arg F qL26 27 (by rfl) (by rfl) (by rfl) (by rfl) (by rfl) (j := 2) rfl (by omega) hL ?_
  refine L_bool F qL26 32 (by rfl) (by rfl) (by rfl) (by rfl) ?_
  refine L_arg F qL26 36 (by rfl) (by rfl) (by rfl) (by rfl) (by rfl) (j := 3) rfl (by omega) hL ?_
  refine L_callM F (zat qL26 41 (by rfl)) lL_127 rfl rfl (as := [.inl (lX E (6 * k + 1)), .inl (bI (!((lX E (6 * k + 2)) == 0))), .inl (lX E (6 * k + 3))]) ⟨by omega, by omega⟩ r1 c1 m1 p2 (fun h2 r2 c2 m2 => ?_)
  exact L_same F qL26 42 (by rfl) (by decide) (L_wid (by omega) (by omega) (kk _ h2 r2 o1 c2 m2))
def kL27 : List (Nat × Instr) := [(1333, .aload_n 1), (1334, .aload_n 0), (1335, .iload_n 3), (1336, .iconst 1), (1337, .iadd), (1338, .iaload), (1339, .aload_n 0), (1340, .iload_n 3), (1341, .iconst 2), (1342, .iadd), (1343, .iaload), (1344, .ifCond .eq 7), (1347, .iconst 1), (1348, .goto 4), (1351, .iconst 0), (1352, .aload_n 0), (1353, .iload_n 3), (1354, .iconst 3), (1355, .iadd), (1356, .iaload), (1357, .invokevirtual 128), (1360, .aload_n 2), (1361, .aload_n 0), (1362, .iload_n 3), (1363, .iconst 1), (1364, .iadd), (1365, .iaload), (1366, .aload_n 0), (1367, .iload_n 3), (1368, .iconst 2), (1369, .iadd), (1370, .iaload), (1371, .ifCond .eq 7), (1374, .iconst 1), (1375, .goto 4), (1378, .iconst 0), (1379, .aload_n 0), (1380, .iload_n 3), (1381, .iconst 3), (1382, .iadd), (1383, .iaload), (1384, .invokevirtual 131), (1387, .if_icmp .eq 803), (1390, .iconst 0), (1391, .ireturn)]
theorem qL27 : zdc code kL27 = true := by decide +kernel
theorem lL_128 : zLv "UnevenWaxLaw" 128 3 mX10_burnt := zLv_of 1072 110 137 1073 1074 rfl (by decide +kernel) (by decide +kernel)
theorem lL_131 : zLv "UnevenWaxLaw" 131 3 mX11_burnt := zLv_of 1736 121 255 1737 1738 rfl (by decide +kernel) (by decide +kernel)
theorem lc_27 {E : LE} {cells slots k : Nat} {h : MH} {S : SS} (F : LF E) (hO : sO S) (hr : zRf h) (hC : sC S h) (hM : sM S h) (hk : 6 * k + 6 ≤ lL E) (hL : lL E ≤ 3072) (hm : cells + 31 ≤ 600000 ∧ slots + 751 ≤ 7302250) (kk : LK E cells slots k) : JL E cells slots 1333 (lls k) [] h := by
  obtain ⟨p1, p2⟩ := p_burnt (S := S) (x := (lX E (6 * k + 1))) (out := !((lX E (6 * k + 2)) == 0)) (t := (lX E (6 * k + 3))) hO
  refine L_aload_n F (zat qL27 0 (by rfl)) rfl ?_
  refine L_arg F qL27 1 (by rfl) (by rfl) (by rfl) (by rfl) (by rfl) (j := 1) rfl (by omega) hL ?_
  refine L_arg F qL27 6 (by rfl) (by rfl) (by rfl) (by rfl) (by rfl) (j := 2) rfl (by omega) hL ?_
  refine L_bool F qL27 11 (by rfl) (by rfl) (by rfl) (by rfl) ?_
  refine L_arg F qL27 15 (by rfl) (by rfl) (by rfl) (by rfl) (by rfl) (j := 3) rfl (by omega) hL ?_
  refine L_callC F (zat qL27 20 (by rfl)) lL_128 rfl rfl (as := [.inl (lX E (6 * k + 1)), .inl (bI (!((lX E (6 * k + 2)) == 0))), .inl (lX E (6 * k + 3))]) ⟨by omega, by omega⟩ hr hC hM p1 (fun h1 r1 o1 c1 m1 => ?_)
  refine L_aload_n F (zat qL27 21 (by rfl)) rfl ?_
  refine L_arg F qL27 22 (by rfl) (by rfl) (by rfl) (by rfl) (by rfl) (j := 1) rfl (by omega) hL ?_
  refine L_arg F qL27 27 (by rfl) (by rfl) (by rfl) (by rfl) (by rfl) (j := 2) rfl (by omega) hL ?_
  refine L_bool F qL27 32 (by rfl) (by rfl) (by rfl) (by rfl) ?_
  refine L_arg F qL27 36 (by rfl) (by rfl) (by rfl) (by rfl) (by rfl) (j := 3) rfl (by omega) hL ?_
  refine L_callM F (zat qL27 41 (by rfl)) lL_131 rfl rfl (as := [.inl (lX E (6 * k + 1)), .inl (bI (!((lX E (6 * k + 2)) == 0))), .inl (lX E (6 * k + 3))]) ⟨by omega, by omega⟩ r1 c1 m1 p2 (fun h2 r2 c2 m2 => ?_)
  exact L_same F qL27 42 (by rfl) (by decide) (L_wid (by omega) (by omega) (kk _ h2 r2 o1 c2 m2))
def kL28 : List (Nat × Instr) := [(1392, .aload_n 1), (1393, .aload_n 0), (1394, .iload_n 3), (1395, .iconst 1), (1396, .iadd), (1397, .iaload), (1398, .aload_n 0), (1399, .iload_n 3), (1400, .iconst 2), (1401, .iadd), (1402, .iaload), (1403, .ifCond .eq 7), (1406, .iconst 1), (1407, .goto 4), (1410, .iconst 0), (1411, .aload_n 0), (1412, .iload_n 3), (1413, .iconst 3), (1414, .iadd), (1415, .iaload), (1416, .aload_n 0), (1417, .iload_n 3), (1418, .iconst 4), (1419, .iadd), (1420, .iaload), (1421, .invokevirtual 132), (1424, .aload_n 2), (1425, .aload_n 0), (1426, .iload_n 3), (1427, .iconst 1), (1428, .iadd), (1429, .iaload), (1430, .aload_n 0), (1431, .iload_n 3), (1432, .iconst 2), (1433, .iadd), (1434, .iaload), (1435, .ifCond .eq 7), (1438, .iconst 1), (1439, .goto 4), (1442, .iconst 0), (1443, .aload_n 0), (1444, .iload_n 3), (1445, .iconst 3), (1446, .iadd), (1447, .iaload), (1448, .aload_n 0), (1449, .iload_n 3), (1450, .iconst 4), (1451, .iadd), (1452, .iaload), (1453, .invokevirtual 136), (1456, .if_icmp .eq 734), (1459, .iconst 0), (1460, .ireturn)]
theorem qL28 : zdc code kL28 = true := by decide +kernel
theorem lL_132 : zLv "UnevenWaxLaw" 132 4 mX10_given := zLv_of 1076 110 138 1077 1078 rfl (by decide +kernel) (by decide +kernel)
theorem lL_136 : zLv "UnevenWaxLaw" 136 4 mX11_given := zLv_of 1740 121 256 1741 1742 rfl (by decide +kernel) (by decide +kernel)
theorem lc_28 {E : LE} {cells slots k : Nat} {h : MH} {S : SS} (F : LF E) (hO : sO S) (hr : zRf h) (hC : sC S h) (hM : sM S h) (hk : 6 * k + 6 ≤ lL E) (hL : lL E ≤ 3072) (hm : cells + 31 ≤ 600000 ∧ slots + 751 ≤ 7302250) (kk : LK E cells slots k) : JL E cells slots 1392 (lls k) [] h := by
  obtain ⟨p1, p2⟩ := p_given (S := S) (x := (lX E (6 * k + 1))) (out := !((lX E (6 * k + 2)) == 0)) (t := (lX E (6 * k + 3))) (k := (lX E (6 * k + 4))) hO
  refine L_aload_n F (zat qL28 0 (by rfl)) rfl ?_
  refine L_arg F qL28 1 (by rfl) (by rfl) (by rfl) (by rfl) (by rfl) (j := 1) rfl (by omega) hL ?_
  refine L_arg F qL28 6 (by rfl) (by rfl) (by rfl) (by rfl) (by rfl) (j := 2) rfl (by omega) hL ?_
  refine L_bool F qL28 11 (by rfl) (by rfl) (by rfl) (by rfl) ?_
  refine L_arg F qL28 15 (by rfl) (by rfl) (by rfl) (by rfl) (by rfl) (j := 3) rfl (by omega) hL ?_
  refine L_arg F qL28 20 (by rfl) (by rfl) (by rfl) (by rfl) (by rfl) (j := 4) rfl (by omega) hL ?_
  refine L_callC F (zat qL28 25 (by rfl)) lL_132 rfl rfl (as := [.inl (lX E (6 * k + 1)), .inl (bI (!((lX E (6 * k + 2)) == 0))), .inl (lX E (6 * k + 3)), .inl (lX E (6 * k + 4))]) ⟨by omega, by omega⟩ hr hC hM p1 (fun h1 r1 o1 c1 m1 => ?_)
  refine L_aload_n F (zat qL28 26 (by rfl)) rfl ?_
  refine L_arg F qL28 27 (by rfl) (by rfl) (by rfl) (by rfl) (by rfl) (j := 1) rfl (by omega) hL ?_
  refine L_arg F qL28 32 (by rfl) (by rfl) (by rfl) (by rfl) (by rfl) (j := 2) rfl (by omega) hL ?_
  refine L_bool F qL28 37 (by rfl) (by rfl) (by rfl) (by rfl) ?_
  refine L_arg F qL28 41 (by rfl) (by rfl) (by rfl) (by rfl) (by rfl) (j := 3) rfl (by omega) hL ?_
  refine L_arg F qL28 46 (by rfl) (by rfl) (by rfl) (by rfl) (by rfl) (j := 4) rfl (by omega) hL ?_
  refine L_callM F (zat qL28 51 (by rfl)) lL_136 rfl rfl (as := [.inl (lX E (6 * k + 1)), .inl (bI (!((lX E (6 * k + 2)) == 0))), .inl (lX E (6 * k + 3)), .inl (lX E (6 * k + 4))]) ⟨by omega, by omega⟩ r1 c1 m1 p2 (fun h2 r2 c2 m2 => ?_)
  exact L_same F qL28 52 (by rfl) (by decide) (L_wid (by omega) (by omega) (kk _ h2 r2 o1 c2 m2))
def kL29 : List (Nat × Instr) := [(1461, .aload_n 1), (1462, .aload_n 0), (1463, .iload_n 3), (1464, .iconst 1), (1465, .iadd), (1466, .iaload), (1467, .aload_n 0), (1468, .iload_n 3), (1469, .iconst 2), (1470, .iadd), (1471, .iaload), (1472, .ifCond .eq 7), (1475, .iconst 1), (1476, .goto 4), (1479, .iconst 0), (1480, .aload_n 0), (1481, .iload_n 3), (1482, .iconst 3), (1483, .iadd), (1484, .iaload), (1485, .aload_n 0), (1486, .iload_n 3), (1487, .iconst 4), (1488, .iadd), (1489, .iaload), (1490, .invokevirtual 137), (1493, .aload_n 2), (1494, .aload_n 0), (1495, .iload_n 3), (1496, .iconst 1), (1497, .iadd), (1498, .iaload), (1499, .aload_n 0), (1500, .iload_n 3), (1501, .iconst 2), (1502, .iadd), (1503, .iaload), (1504, .ifCond .eq 7), (1507, .iconst 1), (1508, .goto 4), (1511, .iconst 0), (1512, .aload_n 0), (1513, .iload_n 3), (1514, .iconst 3), (1515, .iadd), (1516, .iaload), (1517, .aload_n 0), (1518, .iload_n 3), (1519, .iconst 4), (1520, .iadd), (1521, .iaload), (1522, .invokevirtual 140), (1525, .if_icmp .eq 665), (1528, .iconst 0), (1529, .ireturn)]
theorem qL29 : zdc code kL29 = true := by decide +kernel
theorem lL_137 : zLv "UnevenWaxLaw" 137 4 mX10_lacks := zLv_of 1084 110 140 1085 1086 rfl (by decide +kernel) (by decide +kernel)
theorem lL_140 : zLv "UnevenWaxLaw" 140 4 mX11_lacks := zLv_of 1744 121 257 1745 1746 rfl (by decide +kernel) (by decide +kernel)
theorem lc_29 {E : LE} {cells slots k : Nat} {h : MH} {S : SS} (F : LF E) (hO : sO S) (hr : zRf h) (hC : sC S h) (hM : sM S h) (hk : 6 * k + 6 ≤ lL E) (hL : lL E ≤ 3072) (hm : cells + 31 ≤ 600000 ∧ slots + 751 ≤ 7302250) (kk : LK E cells slots k) : JL E cells slots 1461 (lls k) [] h := by
  obtain ⟨p1, p2⟩ := p_lacks (S := S) (x := (lX E (6 * k + 1))) (out := !((lX E (6 * k + 2)) == 0)) (p := (lX E (6 * k + 3))) (k := (lX E (6 * k + 4))) hO
  refine L_aload_n F (zat qL29 0 (by rfl)) rfl ?_
  refine L_arg F qL29 1 (by rfl) (by rfl) (by rfl) (by rfl) (by rfl) (j := 1) rfl (by omega) hL ?_
  refine L_arg F qL29 6 (by rfl) (by rfl) (by rfl) (by rfl) (by rfl) (j := 2) rfl (by omega) hL ?_
  refine L_bool F qL29 11 (by rfl) (by rfl) (by rfl) (by rfl) ?_
  refine L_arg F qL29 15 (by rfl) (by rfl) (by rfl) (by rfl) (by rfl) (j := 3) rfl (by omega) hL ?_
  refine L_arg F qL29 20 (by rfl) (by rfl) (by rfl) (by rfl) (by rfl) (j := 4) rfl (by omega) hL ?_
  refine L_callC F (zat qL29 25 (by rfl)) lL_137 rfl rfl (as := [.inl (lX E (6 * k + 1)), .inl (bI (!((lX E (6 * k + 2)) == 0))), .inl (lX E (6 * k + 3)), .inl (lX E (6 * k + 4))]) ⟨by omega, by omega⟩ hr hC hM p1 (fun h1 r1 o1 c1 m1 => ?_)
  refine L_aload_n F (zat qL29 26 (by rfl)) rfl ?_
  refine L_arg F qL29 27 (by rfl) (by rfl) (by rfl) (by rfl) (by rfl) (j := 1) rfl (by omega) hL ?_
  refine L_arg F qL29 32 (by rfl) (by rfl) (by rfl) (by rfl) (by rfl) (j := 2) rfl (by omega) hL ?_
  refine L_bool F qL29 37 (by rfl) (by rfl) (by rfl) (by rfl) ?_
  refine L_arg F qL29 41 (by rfl) (by rfl) (by rfl) (by rfl) (by rfl) (j := 3) rfl (by omega) hL ?_
  refine L_arg F qL29 46 (by rfl) (by rfl) (by rfl) (by rfl) (by rfl) (j := 4) rfl (by omega) hL ?_
  refine L_callM F (zat qL29 51 (by rfl)) lL_140 rfl rfl (as := [.inl (lX E (6 * k + 1)), .inl (bI (!((lX E (6 * k + 2)) == 0))), .inl (lX E (6 * k + 3)), .inl (lX E (6 * k + 4))]) ⟨by omega, by omega⟩ r1 c1 m1 p2 (fun h2 r2 c2 m2 => ?_)
  exact L_same F qL29 52 (by rfl) (by decide) (L_wid (by omega) (by omega) (kk _ h2 r2 o1 c2 m2))
def kL30 : List (Nat × Instr) := [(1530, .aload_n 1), (1531, .aload_n 0), (1532, .iload_n 3), (1533, .iconst 1), (1534, .iadd), (1535, .iaload), (1536, .aload_n 0), (1537, .iload_n 3), (1538, .iconst 2), (1539, .iadd), (1540, .iaload), (1541, .ifCond .eq 7), (1544, .iconst 1), (1545, .goto 4), (1548, .iconst 0), (1549, .aload_n 0), (1550, .iload_n 3), (1551, .iconst 3), (1552, .iadd), (1553, .iaload), (1554, .invokevirtual 141), (1557, .aload_n 2), (1558, .aload_n 0), (1559, .iload_n 3), (1560, .iconst 1), (1561, .iadd), (1562, .iaload), (1563, .aload_n 0), (1564, .iload_n 3), (1565, .iconst 2), (1566, .iadd), (1567, .iaload), (1568, .ifCond .eq 7), (1571, .iconst 1), (1572, .goto 4), (1575, .iconst 0), (1576, .aload_n 0), (1577, .iload_n 3), (1578, .iconst 3), (1579, .iadd), (1580, .iaload), (1581, .invokevirtual 144), (1584, .if_icmp .eq 606), (1587, .iconst 0), (1588, .ireturn)]
theorem qL30 : zdc code kL30 = true := by decide +kernel
theorem lL_141 : zLv "UnevenWaxLaw" 141 3 mX10_together := zLv_of 1093 110 142 1094 1095 rfl (by decide +kernel) (by decide +kernel)
theorem lL_144 : zLv "UnevenWaxLaw" 144 3 mX11_together := zLv_of 1761 121 261 1762 1763 rfl (by decide +kernel) (by decide +kernel)
theorem lc_30 {E : LE} {cells slots k : Nat} {h : MH} {S : SS} (F : LF E) (hO : sO S) (hr : zRf h) (hC : sC S h) (hM : sM S h) (hk : 6 * k + 6 ≤ lL E) (hL : lL E ≤ 3072) (hm : cells + 31 ≤ 600000 ∧ slots + 751 ≤ 7302250) (kk : LK E cells slots k) : JL E cells slots 1530 (lls k) [] h := by
  obtain ⟨p1, p2⟩ := p_together (S := S) (x := (lX E (6 * k + 1))) (out := !((lX E (6 * k + 2)) == 0)) (y := (lX E (6 * k + 3))) hO
  refine L_aload_n F (zat qL30 0 (by rfl)) rfl ?_
  refine L_arg F qL30 1 (by rfl) (by rfl) (by rfl) (by rfl) (by rfl) (j := 1) rfl (by omega) hL ?_
  refine L_arg F qL30 6 (by rfl) (by rfl) (by rfl) (by rfl) (by rfl) (j := 2) rfl (by omega) hL ?_
  refine L_bool F qL30 11 (by rfl) (by rfl) (by rfl) (by rfl) ?_
  refine L_arg F qL30 15 (by rfl) (by rfl) (by rfl) (by rfl) (by rfl) (j := 3) rfl (by omega) hL ?_
  refine L_callC F (zat qL30 20 (by rfl)) lL_141 rfl rfl (as := [.inl (lX E (6 * k + 1)), .inl (bI (!((lX E (6 * k + 2)) == 0))), .inl (lX E (6 * k + 3))]) ⟨by omega, by omega⟩ hr hC hM p1 (fun h1 r1 o1 c1 m1 => ?_)
  refine L_aload_n F (zat qL30 21 (by rfl)) rfl ?_
  refine L_arg F qL30 22 (by rfl) (by rfl) (by rfl) (by rfl) (by rfl) (j := 1) rfl (by omega) hL ?_
  refine L_arg F qL30 27 (by rfl) (by rfl) (by rfl) (by rfl) (by rfl) (j := 2) rfl (by omega) hL ?_
  refine L_bool F qL30 32 (by rfl) (by rfl) (by rfl) (by rfl) ?_
  refine L_arg F qL30 36 (by rfl) (by rfl) (by rfl) (by rfl) (by rfl) (j := 3) rfl (by omega) hL ?_
  refine L_callM F (zat qL30 41 (by rfl)) lL_144 rfl rfl (as := [.inl (lX E (6 * k + 1)), .inl (bI (!((lX E (6 * k + 2)) == 0))), .inl (lX E (6 * k + 3))]) ⟨by omega, by omega⟩ r1 c1 m1 p2 (fun h2 r2 c2 m2 => ?_)
  exact L_same F qL30 42 (by rfl) (by decide) (L_wid (by omega) (by omega) (kk _ h2 r2 o1 c2 m2))
def kL31 : List (Nat × Instr) := [(1589, .aload_n 1), (1590, .aload_n 0), (1591, .iload_n 3), (1592, .iconst 1), (1593, .iadd), (1594, .iaload), (1595, .aload_n 0), (1596, .iload_n 3), (1597, .iconst 2), (1598, .iadd), (1599, .iaload), (1600, .ifCond .eq 7), (1603, .iconst 1), (1604, .goto 4), (1607, .iconst 0), (1608, .invokevirtual 145), (1611, .aload_n 2), (1612, .aload_n 0), (1613, .iload_n 3), (1614, .iconst 1), (1615, .iadd), (1616, .iaload), (1617, .aload_n 0), (1618, .iload_n 3), (1619, .iconst 2), (1620, .iadd), (1621, .iaload), (1622, .ifCond .eq 7), (1625, .iconst 1), (1626, .goto 4), (1629, .iconst 0), (1630, .invokevirtual 149), (1633, .if_icmp .eq 557), (1636, .iconst 0), (1637, .ireturn)]
theorem qL31 : zdc code kL31 = true := by decide +kernel
theorem lL_145 : zLv "UnevenWaxLaw" 145 2 mX10_leastFor := zLv_of 1117 110 148 1118 1119 rfl (by decide +kernel) (by decide +kernel)
theorem lL_149 : zLv "UnevenWaxLaw" 149 2 mX11_leastFor := zLv_of 1748 121 258 1749 1750 rfl (by decide +kernel) (by decide +kernel)
theorem lc_31 {E : LE} {cells slots k : Nat} {h : MH} {S : SS} (F : LF E) (hO : sO S) (hr : zRf h) (hC : sC S h) (hM : sM S h) (hk : 6 * k + 6 ≤ lL E) (hL : lL E ≤ 3072) (hm : cells + 31 ≤ 600000 ∧ slots + 751 ≤ 7302250) (kk : LK E cells slots k) : JL E cells slots 1589 (lls k) [] h := by
  obtain ⟨p1, p2⟩ := p_leastFor (S := S) (y := (lX E (6 * k + 1))) (out := !((lX E (6 * k + 2)) == 0)) hO
  refine L_aload_n F (zat qL31 0 (by rfl)) rfl ?_
  refine L_arg F qL31 1 (by rfl) (by rfl) (by rfl) (by rfl) (by rfl) (j := 1) rfl (by omega) hL ?_
  refine L_arg F qL31 6 (by rfl) (by rfl) (by rfl) (by rfl) (by rfl) (j := 2) rfl (by omega) hL ?_
  refine L_bool F qL31 11 (by rfl) (by rfl) (by rfl) (by rfl) ?_
  refine L_callC F (zat qL31 15 (by rfl)) lL_145 rfl rfl (as := [.inl (lX E (6 * k + 1)), .inl (bI (!((lX E (6 * k + 2)) == 0)))]) ⟨by omega, by omega⟩ hr hC hM p1 (fun h1 r1 o1 c1 m1 => ?_)
  refine L_aload_n F (zat qL31 16 (by rfl)) rfl ?_
  refine L_arg F qL31 17 (by rfl) (by rfl) (by rfl) (by rfl) (by rfl) (j := 1) rfl (by omega) hL ?_
  refine L_arg F qL31 22 (by rfl) (by rfl) (by rfl) (by rfl) (by rfl) (j := 2) rfl (by omega) hL ?_
  refine L_bool F qL31 27 (by rfl) (by rfl) (by rfl) (by rfl) ?_
  refine L_callM F (zat qL31 31 (by rfl)) lL_149 rfl rfl (as := [.inl (lX E (6 * k + 1)), .inl (bI (!((lX E (6 * k + 2)) == 0)))]) ⟨by omega, by omega⟩ r1 c1 m1 p2 (fun h2 r2 c2 m2 => ?_)
  exact L_same F qL31 32 (by rfl) (by decide) (L_wid (by omega) (by omega) (kk _ h2 r2 o1 c2 m2))
def kL32 : List (Nat × Instr) := [(1638, .aload_n 1), (1639, .aload_n 0), (1640, .iload_n 3), (1641, .iconst 1), (1642, .iadd), (1643, .iaload), (1644, .aload_n 0), (1645, .iload_n 3), (1646, .iconst 2), (1647, .iadd), (1648, .iaload), (1649, .ifCond .eq 7), (1652, .iconst 1), (1653, .goto 4), (1656, .iconst 0), (1657, .aload_n 0), (1658, .iload_n 3), (1659, .iconst 3), (1660, .iadd), (1661, .iaload), (1662, .invokevirtual 150), (1665, .aload_n 2), (1666, .aload_n 0), (1667, .iload_n 3), (1668, .iconst 1), (1669, .iadd), (1670, .iaload), (1671, .aload_n 0), (1672, .iload_n 3), (1673, .iconst 2), (1674, .iadd), (1675, .iaload), (1676, .ifCond .eq 7), (1679, .iconst 1), (1680, .goto 4), (1683, .iconst 0), (1684, .aload_n 0), (1685, .iload_n 3), (1686, .iconst 3), (1687, .iadd), (1688, .iaload), (1689, .invokevirtual 153), (1692, .if_icmp .eq 498), (1695, .iconst 0), (1696, .ireturn)]
theorem qL32 : zdc code kL32 = true := by decide +kernel
theorem lL_150 : zLv "UnevenWaxLaw" 150 3 mX10_nearest := zLv_of 1121 110 149 1122 1123 rfl (by decide +kernel) (by decide +kernel)
theorem lL_153 : zLv "UnevenWaxLaw" 153 3 mX11_nearest := zLv_of 1765 121 262 1766 1767 rfl (by decide +kernel) (by decide +kernel)
theorem lc_32 {E : LE} {cells slots k : Nat} {h : MH} {S : SS} (F : LF E) (hO : sO S) (hr : zRf h) (hC : sC S h) (hM : sM S h) (hk : 6 * k + 6 ≤ lL E) (hL : lL E ≤ 3072) (hm : cells + 31 ≤ 600000 ∧ slots + 751 ≤ 7302250) (kk : LK E cells slots k) : JL E cells slots 1638 (lls k) [] h := by
  obtain ⟨p1, p2⟩ := p_nearest (S := S) (x := (lX E (6 * k + 1))) (out := !((lX E (6 * k + 2)) == 0)) (t := (lX E (6 * k + 3))) hO
  refine L_aload_n F (zat qL32 0 (by rfl)) rfl ?_
  refine L_arg F qL32 1 (by rfl) (by rfl) (by rfl) (by rfl) (by rfl) (j := 1) rfl (by omega) hL ?_
  refine L_arg F qL32 6 (by rfl) (by rfl) (by rfl) (by rfl) (by rfl) (j := 2) rfl (by omega) hL ?_
  refine L_bool F qL32 11 (by rfl) (by rfl) (by rfl) (by rfl) ?_
  refine L_arg F qL32 15 (by rfl) (by rfl) (by rfl) (by rfl) (by rfl) (j := 3) rfl (by omega) hL ?_
  refine L_callC F (zat qL32 20 (by rfl)) lL_150 rfl rfl (as := [.inl (lX E (6 * k + 1)), .inl (bI (!((lX E (6 * k + 2)) == 0))), .inl (lX E (6 * k + 3))]) ⟨by omega, by omega⟩ hr hC hM p1 (fun h1 r1 o1 c1 m1 => ?_)
  refine L_aload_n F (zat qL32 21 (by rfl)) rfl ?_
  refine L_arg F qL32 22 (by rfl) (by rfl) (by rfl) (by rfl) (by rfl) (j := 1) rfl (by omega) hL ?_
  refine L_arg F qL32 27 (by rfl) (by rfl) (by rfl) (by rfl) (by rfl) (j := 2) rfl (by omega) hL ?_
  refine L_bool F qL32 32 (by rfl) (by rfl) (by rfl) (by rfl) ?_
  refine L_arg F qL32 36 (by rfl) (by rfl) (by rfl) (by rfl) (by rfl) (j := 3) rfl (by omega) hL ?_
  refine L_callM F (zat qL32 41 (by rfl)) lL_153 rfl rfl (as := [.inl (lX E (6 * k + 1)), .inl (bI (!((lX E (6 * k + 2)) == 0))), .inl (lX E (6 * k + 3))]) ⟨by omega, by omega⟩ r1 c1 m1 p2 (fun h2 r2 c2 m2 => ?_)
  exact L_same F qL32 42 (by rfl) (by decide) (L_wid (by omega) (by omega) (kk _ h2 r2 o1 c2 m2))
def kL33 : List (Nat × Instr) := [(1697, .aload_n 1), (1698, .aload_n 0), (1699, .iload_n 3), (1700, .iconst 1), (1701, .iadd), (1702, .iaload), (1703, .aload_n 0), (1704, .iload_n 3), (1705, .iconst 2), (1706, .iadd), (1707, .iaload), (1708, .invokevirtual 154), (1711, .aload_n 2), (1712, .aload_n 0), (1713, .iload_n 3), (1714, .iconst 1), (1715, .iadd), (1716, .iaload), (1717, .aload_n 0), (1718, .iload_n 3), (1719, .iconst 2), (1720, .iadd), (1721, .iaload), (1722, .invokevirtual 157), (1725, .if_icmp .eq 465), (1728, .iconst 0), (1729, .ireturn)]
theorem qL33 : zdc code kL33 = true := by decide +kernel
theorem lL_154 : zLv "UnevenWaxLaw" 154 2 mX10_along := zLv_of 1135 110 152 1136 1137 rfl (by decide +kernel) (by decide +kernel)
theorem lL_157 : zLv "UnevenWaxLaw" 157 2 mX11_along := zLv_of 1769 121 263 1770 1771 rfl (by decide +kernel) (by decide +kernel)
theorem lc_33 {E : LE} {cells slots k : Nat} {h : MH} {S : SS} (F : LF E) (hO : sO S) (hr : zRf h) (hC : sC S h) (hM : sM S h) (hk : 6 * k + 6 ≤ lL E) (hL : lL E ≤ 3072) (hm : cells + 31 ≤ 600000 ∧ slots + 751 ≤ 7302250) (kk : LK E cells slots k) : JL E cells slots 1697 (lls k) [] h := by
  obtain ⟨p1, p2⟩ := p_along (S := S) (x := (lX E (6 * k + 1))) (y := (lX E (6 * k + 2))) hO
  refine L_aload_n F (zat qL33 0 (by rfl)) rfl ?_
  refine L_arg F qL33 1 (by rfl) (by rfl) (by rfl) (by rfl) (by rfl) (j := 1) rfl (by omega) hL ?_
  refine L_arg F qL33 6 (by rfl) (by rfl) (by rfl) (by rfl) (by rfl) (j := 2) rfl (by omega) hL ?_
  refine L_callC F (zat qL33 11 (by rfl)) lL_154 rfl rfl (as := [.inl (lX E (6 * k + 1)), .inl (lX E (6 * k + 2))]) ⟨by omega, by omega⟩ hr hC hM p1 (fun h1 r1 o1 c1 m1 => ?_)
  refine L_aload_n F (zat qL33 12 (by rfl)) rfl ?_
  refine L_arg F qL33 13 (by rfl) (by rfl) (by rfl) (by rfl) (by rfl) (j := 1) rfl (by omega) hL ?_
  refine L_arg F qL33 18 (by rfl) (by rfl) (by rfl) (by rfl) (by rfl) (j := 2) rfl (by omega) hL ?_
  refine L_callM F (zat qL33 23 (by rfl)) lL_157 rfl rfl (as := [.inl (lX E (6 * k + 1)), .inl (lX E (6 * k + 2))]) ⟨by omega, by omega⟩ r1 c1 m1 p2 (fun h2 r2 c2 m2 => ?_)
  exact L_same F qL33 24 (by rfl) (by decide) (L_wid (by omega) (by omega) (kk _ h2 r2 o1 c2 m2))
def kL34 : List (Nat × Instr) := [(1730, .aload_n 1), (1731, .aload_n 0), (1732, .iload_n 3), (1733, .iconst 1), (1734, .iadd), (1735, .iaload), (1736, .aload_n 0), (1737, .iload_n 3), (1738, .iconst 2), (1739, .iadd), (1740, .iaload), (1741, .invokevirtual 158), (1744, .aload_n 2), (1745, .aload_n 0), (1746, .iload_n 3), (1747, .iconst 1), (1748, .iadd), (1749, .iaload), (1750, .aload_n 0), (1751, .iload_n 3), (1752, .iconst 2), (1753, .iadd), (1754, .iaload), (1755, .invokevirtual 161), (1758, .if_icmp .eq 432), (1761, .iconst 0), (1762, .ireturn)]
theorem qL34 : zdc code kL34 = true := by decide +kernel
theorem lL_158 : zLv "UnevenWaxLaw" 158 2 mX10_alongs := zLv_of 1180 110 162 1181 1182 rfl (by decide +kernel) (by decide +kernel)
theorem lL_161 : zLv "UnevenWaxLaw" 161 2 mX11_alongs := zLv_of 1793 121 269 1794 1795 rfl (by decide +kernel) (by decide +kernel)
theorem lc_34 {E : LE} {cells slots k : Nat} {h : MH} {S : SS} (F : LF E) (hO : sO S) (hr : zRf h) (hC : sC S h) (hM : sM S h) (hk : 6 * k + 6 ≤ lL E) (hL : lL E ≤ 3072) (hm : cells + 31 ≤ 600000 ∧ slots + 751 ≤ 7302250) (kk : LK E cells slots k) : JL E cells slots 1730 (lls k) [] h := by
  obtain ⟨p1, p2⟩ := p_alongs (S := S) (x := (lX E (6 * k + 1))) (k := (lX E (6 * k + 2))) hO
  refine L_aload_n F (zat qL34 0 (by rfl)) rfl ?_
  refine L_arg F qL34 1 (by rfl) (by rfl) (by rfl) (by rfl) (by rfl) (j := 1) rfl (by omega) hL ?_
  refine L_arg F qL34 6 (by rfl) (by rfl) (by rfl) (by rfl) (by rfl) (j := 2) rfl (by omega) hL ?_
  refine L_callC F (zat qL34 11 (by rfl)) lL_158 rfl rfl (as := [.inl (lX E (6 * k + 1)), .inl (lX E (6 * k + 2))]) ⟨by omega, by omega⟩ hr hC hM p1 (fun h1 r1 o1 c1 m1 => ?_)
  refine L_aload_n F (zat qL34 12 (by rfl)) rfl ?_
  refine L_arg F qL34 13 (by rfl) (by rfl) (by rfl) (by rfl) (by rfl) (j := 1) rfl (by omega) hL ?_
  refine L_arg F qL34 18 (by rfl) (by rfl) (by rfl) (by rfl) (by rfl) (j := 2) rfl (by omega) hL ?_
  refine L_callM F (zat qL34 23 (by rfl)) lL_161 rfl rfl (as := [.inl (lX E (6 * k + 1)), .inl (lX E (6 * k + 2))]) ⟨by omega, by omega⟩ r1 c1 m1 p2 (fun h2 r2 c2 m2 => ?_)
  exact L_same F qL34 24 (by rfl) (by decide) (L_wid (by omega) (by omega) (kk _ h2 r2 o1 c2 m2))
def kL35 : List (Nat × Instr) := [(1763, .aload_n 1), (1764, .aload_n 0), (1765, .iload_n 3), (1766, .iconst 1), (1767, .iadd), (1768, .iaload), (1769, .aload_n 0), (1770, .iload_n 3), (1771, .iconst 2), (1772, .iadd), (1773, .iaload), (1774, .aload_n 0), (1775, .iload_n 3), (1776, .iconst 3), (1777, .iadd), (1778, .iaload), (1779, .invokevirtual 162), (1782, .aload_n 2), (1783, .aload_n 0), (1784, .iload_n 3), (1785, .iconst 1), (1786, .iadd), (1787, .iaload), (1788, .aload_n 0), (1789, .iload_n 3), (1790, .iconst 2), (1791, .iadd), (1792, .iaload), (1793, .aload_n 0), (1794, .iload_n 3), (1795, .iconst 3), (1796, .iadd), (1797, .iaload), (1798, .invokevirtual 165), (1801, .if_icmp .eq 389), (1804, .iconst 0), (1805, .ireturn)]
theorem qL35 : zdc code kL35 = true := by decide +kernel
theorem lL_162 : zLv "UnevenWaxLaw" 162 3 mX10_serves := zLv_of 1184 110 163 1185 1186 rfl (by decide +kernel) (by decide +kernel)
theorem lL_165 : zLv "UnevenWaxLaw" 165 3 mX11_serves := zLv_of 1797 121 270 1798 1799 rfl (by decide +kernel) (by decide +kernel)
theorem lc_35 {E : LE} {cells slots k : Nat} {h : MH} {S : SS} (F : LF E) (hO : sO S) (hr : zRf h) (hC : sC S h) (hM : sM S h) (hk : 6 * k + 6 ≤ lL E) (hL : lL E ≤ 3072) (hm : cells + 31 ≤ 600000 ∧ slots + 751 ≤ 7302250) (kk : LK E cells slots k) : JL E cells slots 1763 (lls k) [] h := by
  obtain ⟨p1, p2⟩ := p_serves (S := S) (x := (lX E (6 * k + 1))) (y := (lX E (6 * k + 2))) (t := (lX E (6 * k + 3))) hO
  refine L_aload_n F (zat qL35 0 (by rfl)) rfl ?_
  refine L_arg F qL35 1 (by rfl) (by rfl) (by rfl) (by rfl) (by rfl) (j := 1) rfl (by omega) hL ?_
  refine L_arg F qL35 6 (by rfl) (by rfl) (by rfl) (by rfl) (by rfl) (j := 2) rfl (by omega) hL ?_
  refine L_arg F qL35 11 (by rfl) (by rfl) (by rfl) (by rfl) (by rfl) (j := 3) rfl (by omega) hL ?_
  refine L_callC F (zat qL35 16 (by rfl)) lL_162 rfl rfl (as := [.inl (lX E (6 * k + 1)), .inl (lX E (6 * k + 2)), .inl (lX E (6 * k + 3))]) ⟨by omega, by omega⟩ hr hC hM p1 (fun h1 r1 o1 c1 m1 => ?_)
  refine L_aload_n F (zat qL35 17 (by rfl)) rfl ?_
  refine L_arg F qL35 18 (by rfl) (by rfl) (by rfl) (by rfl) (by rfl) (j := 1) rfl (by omega) hL ?_
  refine L_arg F qL35 23 (by rfl) (by rfl) (by rfl) (by rfl) (by rfl) (j := 2) rfl (by omega) hL ?_
  refine L_arg F qL35 28 (by rfl) (by rfl) (by rfl) (by rfl) (by rfl) (j := 3) rfl (by omega) hL ?_
  refine L_callM F (zat qL35 33 (by rfl)) lL_165 rfl rfl (as := [.inl (lX E (6 * k + 1)), .inl (lX E (6 * k + 2)), .inl (lX E (6 * k + 3))]) ⟨by omega, by omega⟩ r1 c1 m1 p2 (fun h2 r2 c2 m2 => ?_)
  exact L_same F qL35 34 (by rfl) (by decide) (L_wid (by omega) (by omega) (kk _ h2 r2 o1 c2 m2))
