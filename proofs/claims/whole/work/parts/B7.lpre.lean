/-! what the law's start gives -/
section ZST
abbrev lw_fl : List Cond := flatC (Cond.and given_1 narrow_1)
def zst (i : Nat) : Term := .string ((zstr[i]?).getD ("", 0, "")).1 ((zstr[i]?).getD ("", 0, "")).2.1
def zpn (j : Nat) : String := ["SCREEN", "HOUSE", "SEATS", "CAPACITY", "RENT", "BOOKED", "HELD", "TAKINGS_NOW", "VISITORS_NOW"].getD j ""
def zpt (j : Nat) : Term := .static "CinemaChain$Property" (zpn j) "LCinemaChain$Property;"
abbrev zvt (t : Term) : Term := .field t "java/lang/String" "value" "[B"
abbrev zDt : Term := .static "java/lang/Integer" "DigitOnes" "[B"
abbrev zPt : Term := .static "CinemaChain" "PROPERTIES" "[LCinemaChain$Property;"
abbrev zWt : Term := .static "CinemaChain$1" "$SwitchMap$CinemaChain$Property" "[I"
theorem ls_n : zstr.length = 59 := by decide
theorem zzp : True := trivial
def zpa : List (List Nat) := [[1818, 1178, 1690, 1434, 1946, 1114, 1626, 1370, 1882, 1242], [1754, 1498, 2010, 1082, 1594, 1338, 1850, 1210, 1722], [1466, 1978, 1146, 1658, 1402, 1914, 1274, 1786, 1530, 2042], [518, 1286, 1798, 1158, 1670, 1414, 1926, 1094], [1606, 1350, 1862, 1222, 1734, 1478, 1990, 550, 1318, 1830], [1190, 1702, 1446, 1958, 1126, 1638, 1382, 1894, 1254], [1766, 1510, 2022, 534, 1302, 1814, 1174], [1686, 1430, 1942, 1110, 1622, 1366, 1878, 1238], [1750, 1494, 2006, 1078, 1590, 1334, 1846, 1206, 1718], [1974, 1142, 1654, 1398, 1910, 1270, 1782, 1526, 2038, 526], [1806, 1166, 1678, 1422, 1934, 1102, 1614, 1358], [1230, 1742, 1486, 1998, 558, 1326, 1838, 1198], [1710, 1454, 1966, 1134, 1646, 1390, 1902, 1262, 1774], [1518, 2030, 542, 1310, 1822, 1182, 1694], [1438, 1950, 1118, 1630, 1374, 1886, 1246, 1758], [1502, 2014, 1086, 1598, 1342, 1854, 1214, 1726, 1470, 1982, 1150, 1662, 1406, 1918, 1278, 1790, 1534], [2046, 513, 1281, 1793, 1153, 1665, 1409, 1921, 1089, 1601, 1345, 1857, 1217, 1729], [1473, 1985, 545, 1313, 1825, 1185, 1697, 1441, 1953, 1121, 1633, 1377, 1889, 1249], [1761, 1505, 2017, 529, 1297, 1809, 1169, 1681], [1425, 1937, 1105, 1617, 1361, 1873, 1233], [1489, 2001, 561, 1329, 1841, 1201, 1713, 1457, 1969, 1137, 1649, 1393, 1905, 1265], [1777, 1521, 2033, 521, 1289, 1801, 1161, 1673, 1417, 1929, 1097, 1609, 1353, 1865, 1225, 1737], [1481, 1993, 553, 1321, 1833], [1193, 1705, 1449, 1961, 1129, 1641, 1385], [1897, 1257, 1769, 1513, 2025, 537, 1305, 1817, 1177], [1689, 1433, 1945, 1113, 1625, 1369, 1881, 1241], [1753, 1497, 2009, 1081, 1593, 1337, 1849, 1209, 1721], [1465, 1977, 1145, 1657, 1401, 1913, 1273], [1785, 1529, 2041, 517, 1285, 1797, 1157], [1669, 1413, 1925, 1093, 1605, 1349], [1861, 1221, 1733, 1477, 1989, 549, 1317, 1829, 1189, 1701], [1125, 1637, 1381, 1893, 1253, 1765, 1509, 2021, 533], [1173, 1685, 1429, 1941, 1109, 1621, 1365, 1877, 1237], [1749, 1493, 2005, 1077, 1589, 1333, 1845, 1205, 1717, 1461, 1973, 1141], [1653, 1397, 1909, 1269, 1781, 1525, 2037, 525], [1805, 1165, 1677, 1421, 1933, 1101, 1613, 1357, 1869, 1229], [1741, 1485, 1997, 557, 1325, 1837, 1197, 1709], [1453, 1965, 1133, 1645, 1389, 1901, 1261, 1773, 1517, 2029, 541], [1309, 1821, 1181, 1693, 1437, 1949, 1117, 1629, 1373, 1885, 1245, 1757], [1501, 2013, 1085, 1597, 1341, 1853, 1213, 1725, 1469], [1149, 1661, 1405, 1917], [1277, 1789, 1533, 2045, 515, 1283, 1795, 1155], [1923, 1091, 1603, 1347, 1859, 1219, 1731, 1475, 1987, 547], [1827, 1187, 1699, 1443, 1955, 1123, 1635, 1379, 1891], [1763, 1507, 2019, 531, 1299, 1811, 1171], [1939, 1107, 1619, 1363, 1875, 1235, 1747, 1491, 2003], [1331, 1843, 1203, 1715, 1459, 1971, 1139, 1651], [1907, 1267, 1779, 1523, 2035, 523, 1291], [1163, 1675, 1419, 1931, 1099, 1611, 1355], [1227, 1739, 1483, 1995, 555, 1323], [1195, 1707, 1451, 1963, 1131, 1643, 1387, 1899, 1259, 1771], [1307, 1819, 1179, 1691, 1435, 1947, 1115, 1627, 1371], [1499, 2011, 1083, 1595, 1339, 1851, 1211, 1723, 1467], [1147, 1659, 1403, 1915, 1275, 1787, 1531, 2043, 519, 1287, 1799, 1159], [1415, 1927, 1095, 1607, 1351, 1863, 1223, 1735], [551, 1319, 1831, 1191, 1703, 1447, 1959, 1127, 1639, 1383], [1255, 1767, 1511, 2023, 535, 1303, 1815, 1175], [1431, 1943, 1111, 1623, 1367, 1879, 1239, 1751, 1495, 2007, 1079], [1335, 1847, 1207, 1719, 1463, 1975, 1143, 1655, 1399, 1911, 1271, 1783]]
def zpd : List Nat := [1728, 1472, 1984, 544, 1312, 1824, 1184, 1696, 1440, 1952, 1120, 1632, 1376, 1888, 1248, 1760, 1504, 2016, 528, 1296, 1808, 1168, 1680, 1424, 1936, 1104, 1616, 1360, 1872, 1232, 1744, 1488, 2000, 560, 1328, 1840, 1200, 1712, 1456, 1968, 1136, 1648, 1392, 1904, 1264, 1776, 1520, 2032, 520, 1288, 1800, 1160, 1672, 1416, 1928, 1096, 1608, 1352, 1864, 1224, 1736, 1480, 1992, 552, 1320, 1832, 1192, 1704, 1448, 1960, 1128, 1640, 1384, 1896, 1256, 1768, 1512, 2024, 536, 1304, 1816, 1176, 1688, 1432, 1944, 1112, 1624, 1368, 1880, 1240, 1752, 1496, 2008, 1080, 1592, 1336, 1848, 1208, 1720, 1464]
def cpt : Nat → Nat → Cond → Cond
  | 0, _, c => c
  | k + 1, n, c => if n ≤ 1 then c else match c with
    | .and a b => cpt k (n / 2) (if n % 2 = 0 then a else b)
    | c => c
theorem cpt_b {args : Array Value} {s : State} : ∀ (k n : Nat) (c : Cond), c.before args s = true → (cpt k n c).before args s = true := fun k => by
  induction k with
  | zero => exact fun _ _ h => h
  | succ k ih =>
    intro n c h
    unfold cpt
    split
    · exact h
    · split
      · rename_i a b
        rw [Cond.before_and, Bool.and_eq_true] at h
        refine ih _ _ ?_
        split
        · exact h.1
        · exact h.2
      · exact h
theorem ls_ex : ∀ i ∈ List.range 59, cpt 20 ((zpa.getD i []).getD 0 1) narrow_1 = Cond.exactly (zst i) "java/lang/String" := by decide +kernel
theorem ls_co : ∀ i ∈ List.range 59, cpt 20 ((zpa.getD i []).getD 1 1) narrow_1 = Cond.eq (.field (zst i) "java/lang/String" "coder" "B") (.int 0) := by decide +kernel
theorem ls_ar : ∀ i ∈ List.range 59, cpt 20 ((zpa.getD i []).getD 2 1) narrow_1 = Cond.arrayOf (zvt (zst i)) .byte := by decide +kernel
theorem ls_le : ∀ i ∈ List.range 59, cpt 20 ((zpa.getD i []).getD 3 1) narrow_1 = Cond.eq (.length (zvt (zst i))) (.int (Int32.ofNat (zsl i))) := by decide +kernel
theorem ls_el : ∀ i ∈ List.range 59, ∀ j ∈ List.range (zsl i), cpt 20 ((zpa.getD i []).getD (4 + j) 1) narrow_1 = Cond.eq (.elem (zvt (zst i)) (.int (Int32.ofNat j))) (.int (Int32.ofInt (zsc i j))) := by decide +kernel
theorem ls_sr : ∀ i ∈ List.range 59, Cond.stringRef ((zstr[i]?).getD ("", 0, "")).1 ((zstr[i]?).getD ("", 0, "")).2.1 ((zstr[i]?).getD ("", 0, "")).2.2 ∈ lw_tbl := by decide +kernel
theorem lp_ex : ∀ j ∈ List.range 9, Cond.exactly (zpt j) "CinemaChain$Property" ∈ lw_fl := by decide +kernel
theorem lp_or : ∀ j ∈ List.range 9, Cond.eq (.field (zpt j) "java/lang/Enum" "ordinal" "I") (.int (Int32.ofInt (j : Int))) ∈ lw_fl := by decide +kernel
theorem lp_wd : ∀ j ∈ List.range 9, Cond.eq (.field (zpt j) "CinemaChain$Property" "word" "Ljava/lang/String;") (zst (50 + j)) ∈ lw_fl := by decide +kernel
theorem lp_ar : Cond.arrayOf zPt (.object "CinemaChain$Property") ∈ lw_fl := by decide +kernel
theorem lp_le : Cond.eq (.length zPt) (.int (Int32.ofNat 9)) ∈ lw_fl := by decide +kernel
theorem lp_el : ∀ j ∈ List.range 9, Cond.eq (.elem zPt (.int (Int32.ofNat j))) (zpt j) ∈ lw_fl := by decide +kernel
theorem lp_wa : Cond.arrayOf zWt .int ∈ lw_fl := by decide +kernel
theorem lp_wl : Cond.eq (.length zWt) (.int (Int32.ofNat 9)) ∈ lw_fl := by decide +kernel
theorem lp_we : ∀ j ∈ List.range 9, Cond.eq (.elem zWt (.int (Int32.ofNat j))) (.int (Int32.ofInt (if j = 8 then 0 else (j : Int) + 1))) ∈ lw_fl := by decide +kernel
theorem ld_ar : Cond.arrayOf zDt .byte ∈ lw_fl := by decide +kernel
theorem ld_le : Cond.eq (.length zDt) (.int (Int32.ofNat 100)) ∈ lw_fl := by decide +kernel
theorem ld_el : ∀ j ∈ List.range 100, cpt 20 (zpd.getD j 1) narrow_1 = Cond.eq (.elem zDt (.int (Int32.ofNat j))) (.int (Int32.ofInt (48 + ((j % 10 : Nat) : Int)))) := by decide +kernel
theorem lc_cs : Cond.eq (.static "java/lang/String" "COMPACT_STRINGS" "Z") (.int (Int32.ofInt 1)) ∈ lw_fl := by decide +kernel
theorem lc_si : Cond.isRef (.static "jdk/internal/util/Preconditions" "SIOOBE_FORMATTER" "Ljava/util/function/BiFunction;") ∈ lw_fl := by decide +kernel
theorem lc_us : Cond.isRef (.static "java/lang/Throwable" "UNASSIGNED_STACK" "[Ljava/lang/StackTraceElement;") ∈ lw_fl := by decide +kernel
theorem lc_ss : Cond.isRef (.static "java/lang/Throwable" "SUPPRESSED_SENTINEL" "Ljava/util/List;") ∈ lw_fl := by decide +kernel
theorem lc_nc : Cond.not (.castable eIAE eNSE) ∈ lw_fl := by decide +kernel
variable {s : State} {args : Array Value}
theorem va_eqr {t u : Term} {a : Nat} (h : (Cond.eq t u).before args s = true) (hu : u.eval args s none [] s = some (.ref a)) : t.eval args s none [] s = some (.ref a) := by
  cases hv : t.eval args s none [] s with
  | none => simp [Cond.before, Cond.holds, Cond.value, hv] at h
  | some w =>
    simp only [Cond.before, Cond.holds, Cond.value, hv, hu] at h
    cases w <;> simp_all
abbrev lA (s : State) : Nat → Prop := fun q => s.heap.size ≤ q
theorem lA_n (s : State) : ∀ a : Nat, a < s.heap.size → ¬ lA s a := fun a h => Nat.not_le.mpr h
theorem lw_str (hn : narrow_1.before args s = true) : ∃ ad : Nat → Nat × Nat, ∀ i, i < 59 → (zst i).eval args s none [] s = some (.ref (ad i).1) ∧ va_O "java/lang/String" (ad i).1 (lA s) s s.heap ∧ va_OF "java/lang/String" "coder" "B" (.int (Int32.ofInt 0)) (ad i).1 (lA s) s s.heap ∧ va_OF "java/lang/String" "value" "[B" (.ref (ad i).2) (ad i).1 (lA s) s s.heap ∧ va_T .byte (ad i).2 (zsl i) (fun j => .int (Int32.ofInt (zsc i j))) (lA s) s s.heap := by
  have h0 : ∀ i : Nat, ∃ q : Nat × Nat, i < 59 → (zst i).eval args s none [] s = some (.ref q.1) ∧ va_O "java/lang/String" q.1 (lA s) s s.heap ∧ va_OF "java/lang/String" "coder" "B" (.int (Int32.ofInt 0)) q.1 (lA s) s s.heap ∧ va_OF "java/lang/String" "value" "[B" (.ref q.2) q.1 (lA s) s s.heap ∧ va_T .byte q.2 (zsl i) (fun j => .int (Int32.ofInt (zsc i j))) (lA s) s s.heap := by
    intro i
    by_cases hi : i < 59
    · have hm := List.mem_range.mpr hi
      have hA := lA_n s
      have hb : zsl i < 2 ^ 31 := by
        have q : ∀ i ∈ List.range 59, zsl i < 2 ^ 31 := by decide +kernel
        exact q i hm
      obtain ⟨a, c, cA, kA, q1, q2, q3, q4, q5, q6, -⟩ := Cond.exactly_spec (args := args) (first := s) (o := none) (s := s) (idx := []) (t := zst i) (cls := "java/lang/String") (ls_ex i hm ▸ cpt_b 20 _ _ hn)
      obtain ⟨t, ht, hT⟩ := va_Tof (f := fun j => .int (Int32.ofInt (zsc i j))) (A := lA s) hb (ls_ar i hm ▸ cpt_b 20 _ _ hn) (va_eqt (ls_le i hm ▸ cpt_b 20 _ _ hn)) (fun j hj => va_eqt (ls_el i hm j (List.mem_range.mpr hj) ▸ cpt_b 20 _ _ hn)) hA
      exact ⟨(a, t), fun _ => ⟨q1, ⟨cA, q3, q5, by rw [q6]; exact q2, hA a (Array.getElem?_eq_some_iff.mp q3).1⟩, vk_OFof q1 (va_eqt (ls_co i hm ▸ cpt_b 20 _ _ hn)) hA, vk_OFof q1 ht hA, hT⟩⟩
    · exact ⟨(0, 0), fun h => absurd h hi⟩
  exact Classical.axiomOfChoice h0
theorem lw_prp (hs : ∀ w ∈ lw_fl, w.before args s = true) {ad : Nat → Nat × Nat} (ha : ∀ i, i < 59 → (zst i).eval args s none [] s = some (.ref (ad i).1)) : ∃ pr : Nat → Nat, ∀ j, j < 9 → (zpt j).eval args s none [] s = some (.ref (pr j)) ∧ va_O "CinemaChain$Property" (pr j) (lA s) s s.heap ∧ va_OF "java/lang/Enum" "ordinal" "I" (.int (Int32.ofInt (j : Int))) (pr j) (lA s) s s.heap ∧ va_OF "CinemaChain$Property" "word" "Ljava/lang/String;" (.ref (ad (50 + j)).1) (pr j) (lA s) s s.heap := by
  have h0 : ∀ j : Nat, ∃ q : Nat, j < 9 → (zpt j).eval args s none [] s = some (.ref q) ∧ va_O "CinemaChain$Property" q (lA s) s s.heap ∧ va_OF "java/lang/Enum" "ordinal" "I" (.int (Int32.ofInt (j : Int))) q (lA s) s s.heap ∧ va_OF "CinemaChain$Property" "word" "Ljava/lang/String;" (.ref (ad (50 + j)).1) q (lA s) s s.heap := by
    intro j
    by_cases hj : j < 9
    · have hm := List.mem_range.mpr hj
      have hA := lA_n s
      obtain ⟨a, c, cA, kA, q1, q2, q3, q4, q5, q6, -⟩ := Cond.exactly_spec (args := args) (first := s) (o := none) (s := s) (idx := []) (t := zpt j) (cls := "CinemaChain$Property") (hs _ (lp_ex j hm))
      exact ⟨a, fun _ => ⟨q1, ⟨cA, q3, q5, by rw [q6]; exact q2, hA a (Array.getElem?_eq_some_iff.mp q3).1⟩, vk_OFof q1 (va_eqt (hs _ (lp_or j hm))) hA, vk_OFof q1 (va_eqr (hs _ (lp_wd j hm)) (ha _ (by omega))) hA⟩⟩
    · exact ⟨0, fun h => absurd h hj⟩
  exact Classical.axiomOfChoice h0
theorem lw_arr (hs : ∀ w ∈ lw_fl, w.before args s = true) (hn : narrow_1.before args s = true) {pr : Nat → Nat} (hp : ∀ j, j < 9 → (zpt j).eval args s none [] s = some (.ref (pr j))) : ∃ a b c : Nat, (zPt.eval args s none [] s = some (.ref a) ∧ va_T (.object "CinemaChain$Property") a 9 (fun j => .ref (pr j)) (lA s) s s.heap) ∧ (zWt.eval args s none [] s = some (.ref b) ∧ va_T .int b 9 (fun j => .int (Int32.ofInt (if j = 8 then 0 else (j : Int) + 1))) (lA s) s s.heap) ∧ (zDt.eval args s none [] s = some (.ref c) ∧ va_T .byte c 100 (fun j => .int (Int32.ofInt (48 + ((j % 10 : Nat) : Int)))) (lA s) s s.heap) := by
  have hA := lA_n s
  obtain ⟨a, a1, a2⟩ := va_Tof (f := fun j => .ref (pr j)) (A := lA s) (N := 9) (by decide) (hs _ lp_ar) (va_eqt (hs _ lp_le)) (fun j hj => va_eqr (hs _ (lp_el j (List.mem_range.mpr hj))) (hp j hj)) hA
  obtain ⟨b, b1, b2⟩ := va_Tof (f := fun j => .int (Int32.ofInt (if j = 8 then 0 else (j : Int) + 1))) (A := lA s) (N := 9) (by decide) (hs _ lp_wa) (va_eqt (hs _ lp_wl)) (fun j hj => va_eqt (hs _ (lp_we j (List.mem_range.mpr hj)))) hA
  obtain ⟨c, c1, c2⟩ := va_Tof (f := fun j => .int (Int32.ofInt (48 + ((j % 10 : Nat) : Int)))) (A := lA s) (N := 100) (by decide) (hs _ ld_ar) (va_eqt (hs _ ld_le)) (fun j hj => va_eqt (ld_el j (List.mem_range.mpr hj) ▸ cpt_b 20 _ _ hn)) hA
  exact ⟨a, b, c, ⟨a1, a2⟩, ⟨b1, b2⟩, c1, c2⟩
/-- the words of the tables -/
theorem lw_all_b (hts : ∀ w ∈ lw_tbl, w.before args s = true) : ∀ w ∈ lw_all, w.before args s = true := by
  have h2 : (Cond.selects RJ4 yJ5_isLatin1_aae02 yJ5_isLatin1_aae02).before args s = true := hts _ (by decide +kernel)
  obtain ⟨c2, _, _, q1, _, _, _, _, _, _⟩ := Cond.selects_spec h2
  have sb : ∀ w ∈ lw_sb, w.before args s = true := by
    intro w hw
    have hw2 : w = Cond.selects RJ4 yJ5_ensureCapacityInternal_d00df yJ5_ensureCapacityInternal_d00df ∨ w = Cond.selects RJ4 yJ5_newCapacity_0f7a4 yJ5_newCapacity_0f7a4 ∨ w = Cond.selects RJ4 yJ5_putStringAt_47b60 yJ5_putStringAt_47b60 ∨ w = Cond.selects RJ4 yJ5_inflateIfNeededFor_a7421 yJ5_inflateIfNeededFor_a7421 := by simpa [lw_sb] using hw
    rcases hw2 with e | e | e | e <;> subst e
    · exact zsel_sb rfl q1 rfl h2 (hts _ (by decide +kernel)) (hts _ (by decide +kernel))
    · exact zsel_sb rfl q1 rfl h2 (hts _ (by decide +kernel)) (hts _ (by decide +kernel))
    · exact zsel_sb rfl q1 rfl h2 (hts _ (by decide +kernel)) (hts _ (by decide +kernel))
    · exact zsel_sb rfl q1 rfl h2 (hts _ (by decide +kernel)) (hts _ (by decide +kernel))
  exact fun w hw => (List.mem_append.mp (List.mem_filter.mp hw).1).elim (sb w) (hts w)
theorem ls_aI : Cond.arrayClass .int ∈ lw_tbl := by decide +kernel
theorem ls_aB : Cond.arrayClass .byte ∈ lw_tbl := by decide +kernel
theorem ls_aZ : Cond.arrayClass .boolean ∈ lw_tbl := by decide +kernel
theorem ls_aJ : Cond.arrayClass .long ∈ lw_tbl := by decide +kernel
theorem ls_oS : Cond.arrayOver (.object "CinemaChain$State") ∈ lw_tbl := by decide +kernel
theorem ls_oT : Cond.arrayOver (.object "java/lang/String") ∈ lw_tbl := by decide +kernel
end ZST
