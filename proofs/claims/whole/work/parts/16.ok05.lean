/-! checks of the tables -/
set_option maxRecDepth 100000 in
theorem ok_202 : okM mTab Mx202 ∧ plainName Mx202.1.cls = true := okM_of (pss := [[], [], [1450, 1452, 35, 116, 1453], [], [], [], [], [], [1364], [], [], [1366], [], [], [], [], [], [], [], [1586, 1588, 62, 116, 1589], [], [], [], [], [1353], [], [], [], [], [], [], [], [], [], [1353], [], [], [], [], [1353], [], [], [], [], [], [], [], [], [1353], [], [], [], [], [], [1359], [], []]) (by decide +kernel) (by decide +kernel)
set_option maxRecDepth 100000 in
theorem ok_203 : okM mTab Mx203 ∧ plainName Mx203.1.cls = true := okM_of (pss := [[], [], [], [1609, 1611, 65, 116, 1612], [], [], [], [], [1609, 1611, 65, 116, 1612], [], [], [], [], [], []]) (by decide +kernel) (by decide +kernel)
set_option maxRecDepth 100000 in
theorem ok_204 : okM mTab Mx204 ∧ plainName Mx204.1.cls = true := okM_of (pss := [[], [], [], [1370], [], [], [], [], [1609, 1611, 65, 116, 1612], [], [], [], [], [1609, 1611, 65, 116, 1612], [], [], [1371], [], [], [], [], [1609, 1611, 65, 116, 1612], [], [], [], [], [1609, 1611, 65, 116, 1612], [], [], [], [], [1609, 1611, 65, 116, 1612], [], [], [1353], [], [], [], [], [], [1625, 1627, 69, 116, 1628], [], [], [], [], [], [], []]) (by decide +kernel) (by decide +kernel)
set_option maxRecDepth 100000 in
theorem ok_205 : okM mTab Mx205 ∧ plainName Mx205.1.cls = true := okM_of (pss := [[], [], [], [], [], [], [], [], [], [1353], [], [], [], [], [], [], [], [1353], [], [], [], [], [], [], [1353], [], [], [], [], [], [], [], [], [], [], [], [1369], [], [], [], [], [1353], [], [], [], [], [], [], [], [], [], [1621, 1623, 68, 116, 1624], [], [], [], [], [], [], [], [1369], [], [], [], [], [], [1369], [], [], [], [], [], [], [], [], [], [1369], [], [], [], [], [], [], [1369], [], [], [], [], [], [], [], [], [], [], [], [], [], [], [], [], [], [], [], [], [], [], [], [], [], [], [], [], [], [], [], [], [], [], [], [], [], [], [], [], [], [], [], [], [1369], [], [], [], [], [], [], [], [], [], [], [], [], [], [], [], [], [], [], [], [], [], [1369], [], [], [], [], [], [], [], []]) (by decide +kernel) (by decide +kernel)
set_option maxRecDepth 100000 in
theorem ok_206 : okM mTab Mx206 ∧ plainName Mx206.1.cls = true := okM_of (pss := [[], [], [1370], [], [], [1371], [], [], [], [], [], [1353], [], [], [], [], [], [], [1353], [], [], [], [], [1353], [], [], [], [], [], [], [], [], [], [], [], [1617, 1619, 67, 116, 1620], [], [], [], [1353], [], [], [], [], [], [], [], [], [], [], [], [], [], []]) (by decide +kernel) (by decide +kernel)
set_option maxRecDepth 100000 in
theorem ok_207 : okM mTab Mx207 ∧ plainName Mx207.1.cls = true := okM_of (pss := [[], [], [], [], [], [], [1613, 1615, 66, 116, 1616], [], []]) (by decide +kernel) (by decide +kernel)
set_option maxRecDepth 100000 in
theorem ok_208 : okM mTab Mx208 ∧ plainName Mx208.1.cls = true := okM_of (pss := [[], [], [], [], [], [], [], [], [], [], [], [], [1642, 1644, 73, 116, 1645], [], [], [], [], [], []]) (by decide +kernel) (by decide +kernel)
set_option maxRecDepth 100000 in
theorem ok_209 : okM mTab Mx209 ∧ plainName Mx209.1.cls = true := okM_of (pss := [[], [], [], [], [], [], [], [], [], [1638, 1640, 72, 116, 1641], [], [], [], [1609, 1611, 65, 116, 1612], [], [], [], [], [], [], []]) (by decide +kernel) (by decide +kernel)
set_option maxRecDepth 100000 in
theorem ok_210 : okM mTab Mx210 ∧ plainName Mx210.1.cls = true := okM_of (pss := [[], [], [], [], [], [1613, 1615, 66, 116, 1616], []]) (by decide +kernel) (by decide +kernel)
set_option maxRecDepth 100000 in
theorem ok_211 : okM mTab Mx211 ∧ plainName Mx211.1.cls = true := okM_of (pss := [[], [], [], [1609, 1611, 65, 116, 1612], [], [], [], [], [], [1613, 1615, 66, 116, 1616], [129, 1629, 377, 378], []]) (by decide +kernel) (by decide +kernel)
set_option maxRecDepth 100000 in
theorem ok_212 : okM mTab Mx212 ∧ plainName Mx212.1.cls = true := okM_of (pss := [[], [], [], [], [], [], [], [], [], [], [], [1634, 1636, 71, 116, 1637], [], [], [], [], [], [], [], [], [], [], [], []]) (by decide +kernel) (by decide +kernel)
set_option maxRecDepth 100000 in
theorem ok_213 : okM mTab Mx213 ∧ plainName Mx213.1.cls = true := okM_of (pss := [[], [], [1650], [], [], [], [], [], [1489, 1491, 44, 116, 1492], [], [], [], [], [1609, 1611, 65, 116, 1612], [], [], [], [1609, 1611, 65, 116, 1612], [], [129, 1651, 509, 510], [], [], [], [], [], [], [], [], [], [], [], [], [], [], [], []]) (by decide +kernel) (by decide +kernel)
set_option maxRecDepth 100000 in
theorem ok_214 : okM mTab Mx214 ∧ plainName Mx214.1.cls = true := okM_of (pss := [[], [], [1352], [], [], [], [1598, 1600, 63, 116, 1601], [], [1586, 1588, 62, 116, 1589], [], [], [], [], [], [1602, 1603, 116, 1604], [], [], [], [], [], [1586, 1588, 62, 116, 1589], [], [], [], [], [], [], [], [], [1353], [], [], [1605, 1607, 64, 116, 1608], [], [], [], [1630, 1632, 70, 116, 1633], [], [], [], [1646, 1648, 74, 116, 1649], [], [], [], [], [1609, 1611, 65, 116, 1612], []]) (by decide +kernel) (by decide +kernel)
set_option maxRecDepth 100000 in
theorem ok_215 : okM mTab Mx215 ∧ plainName Mx215.1.cls = true := okM_of (pss := [[], [], [1352], [], [], [], [1656, 1658, 75, 116, 1659], [], [1586, 1588, 62, 116, 1589], [], [], [], [], [], [], [], [], [], [], [1660, 1662, 76, 116, 1663], []]) (by decide +kernel) (by decide +kernel)
set_option maxRecDepth 100000 in
theorem ok_216 : okM mTab Mx216 ∧ plainName Mx216.1.cls = true := okM_of (pss := [[], [], [1352], [], [], [], [1598, 1600, 63, 116, 1601], [], [1586, 1588, 62, 116, 1589], [], [], [], [1668, 1669, 116, 1670], [], [1586, 1588, 62, 116, 1589], [], [], [], [], [], [], [1634, 1636, 71, 116, 1637], []]) (by decide +kernel) (by decide +kernel)
set_option maxRecDepth 100000 in
theorem ok_217 : okM mTab Mx217 ∧ plainName Mx217.1.cls = true := okM_of (pss := [[], [], [1352], [], [], [], [1598, 1600, 63, 116, 1601], [], [1586, 1588, 62, 116, 1589], [], [], [], [], [], [1602, 1603, 116, 1604], [], [], [1668, 1669, 116, 1670], [], [], [], [], [], [1586, 1588, 62, 116, 1589], [], [], [], [], [], [], [], [1642, 1644, 73, 116, 1645], []]) (by decide +kernel) (by decide +kernel)
set_option maxRecDepth 100000 in
theorem ok_218 : okM mTab Mx218 ∧ plainName Mx218.1.cls = true := okM_of (pss := [[], [], [1352], [], [], [], [1598, 1600, 63, 116, 1601], [], [1586, 1588, 62, 116, 1589], [], [], [], [], [], [1602, 1603, 116, 1604], [], [], [1668, 1669, 116, 1670], [], [], [], [], [], [1586, 1588, 62, 116, 1589], [], [], [], [], [], [], [], [1638, 1640, 72, 116, 1641], []]) (by decide +kernel) (by decide +kernel)
set_option maxRecDepth 100000 in
theorem ok_219 : okM mTab Mx219 ∧ plainName Mx219.1.cls = true := okM_of (pss := [[], [], [1352], [], [], [], [1598, 1600, 63, 116, 1601], [], [1586, 1588, 62, 116, 1589], [], [], [], [], [], [1650], [], [], [], [], [], [], [], [], [], [1634, 1636, 71, 116, 1637], [], [], [], [], [], [], [], [], [], [], [], [], [], [], []]) (by decide +kernel) (by decide +kernel)
set_option maxRecDepth 100000 in
theorem ok_220 : okM mTab Mx220 ∧ plainName Mx220.1.cls = true := okM_of (pss := [[], [], [], [1699, 1701, 80, 116, 1702], [], [], [], [1609, 1611, 65, 116, 1612], [], [], [], []]) (by decide +kernel) (by decide +kernel)
set_option maxRecDepth 100000 in
theorem ok_221 : okM mTab Mx221 ∧ plainName Mx221.1.cls = true := okM_of (pss := [[], [], [1519, 1521, 49, 116, 1522], [], [], [], []]) (by decide +kernel) (by decide +kernel)
set_option maxRecDepth 100000 in
theorem ok_222 : okM mTab Mx222 ∧ plainName Mx222.1.cls = true := okM_of (pss := [[], [], [], [], [], [], [1519, 1521, 49, 116, 1522], [], [], [], [], [1719, 1720, 116, 1721], [], [], [], [], [], [1660, 1662, 76, 116, 1663], [], [], [], [1660, 1662, 76, 116, 1663], [], [129, 1722, 434, 435], [], [], [], [], [], [], [], []]) (by decide +kernel) (by decide +kernel)
set_option maxRecDepth 100000 in
theorem ok_223 : okM mTab Mx223 ∧ plainName Mx223.1.cls = true := okM_of (pss := [[], [], [1715, 1717, 83, 116, 1718], [], [], [], [1695, 1697, 79, 116, 1698], [], [], [], [], []]) (by decide +kernel) (by decide +kernel)
set_option maxRecDepth 100000 in
theorem ok_224 : okM mTab Mx224 ∧ plainName Mx224.1.cls = true := okM_of (pss := [[], [], [1691, 1693, 78, 116, 1694], [], [], [], [1598, 1600, 63, 116, 1601], [], [], [], [], []]) (by decide +kernel) (by decide +kernel)
set_option maxRecDepth 100000 in
theorem ok_225 : okM mTab Mx225 ∧ plainName Mx225.1.cls = true := okM_of (pss := [[], [], [1352], [], [], [], [], [1687, 1689, 77, 116, 1690], [], [1586, 1588, 62, 116, 1589], [], [], [], [], [], [], [1695, 1697, 79, 116, 1698], []]) (by decide +kernel) (by decide +kernel)
set_option maxRecDepth 100000 in
theorem ok_226 : okM mTab Mx226 ∧ plainName Mx226.1.cls = true := okM_of (pss := [[], [], [1352], [], [], [], [], [1687, 1689, 77, 116, 1690], [], [1586, 1588, 62, 116, 1589], [], [], [], [], [], [], [1707, 1709, 81, 116, 1710], [], [1711, 1713, 82, 116, 1714], [], [], [], [], []]) (by decide +kernel) (by decide +kernel)
set_option maxRecDepth 100000 in
theorem ok_227 : okM mTab Mx227 ∧ plainName Mx227.1.cls = true := okM_of (pss := [[], [], [1352], [], [], [], [], [1687, 1689, 77, 116, 1690], [], [1586, 1588, 62, 116, 1589], [], [], [], [], [], [], [1707, 1709, 81, 116, 1710], [], [], [], [], [], [], [], [1711, 1713, 82, 116, 1714], [], [], [], [], [1727, 471, 131, 472], [], [1727, 471, 131, 472], [], [], [], [], [], [], []]) (by decide +kernel) (by decide +kernel)
set_option maxRecDepth 100000 in
theorem ok_228 : okM mTab Mx228 ∧ plainName Mx228.1.cls = true := okM_of (pss := [[], [], [1352], [], [], [], [], [1687, 1689, 77, 116, 1690], [], [1586, 1588, 62, 116, 1589], [], [], [], [], [], [], [], [1707, 1709, 81, 116, 1710], [], [], [1372], [], [], [], [], [], [], [], [], [], [], [], [1711, 1713, 82, 116, 1714], [], [], [1372], [], [], [1372], [], [], [], [], [1372], [], [], [], [], [], [], [], [129, 1722, 434, 435], [], [], [], [], [], [], [], [], [], [], [], [1372], [], [1707, 1709, 81, 116, 1710], [], []]) (by decide +kernel) (by decide +kernel)
set_option maxRecDepth 100000 in
theorem ok_229 : okM mTab Mx229 ∧ plainName Mx229.1.cls = true := okM_of (pss := [[], [], [1352], [], [], [], [], [1687, 1689, 77, 116, 1690], [], [1586, 1588, 62, 116, 1589], [], [], [], [], [], [], [], [], [], [], [], [], [], [], [1519, 1521, 49, 116, 1522], [], [], [], [], [], [], [1660, 1662, 76, 116, 1663], [], [], [], [], [1660, 1662, 76, 116, 1663], [], [], [], [], [129, 1722, 434, 435], [], [129, 1722, 434, 435], [], [], [], [], [], [], [], [], [1695, 1697, 79, 116, 1698], [], [], [], [], [], [], []]) (by decide +kernel) (by decide +kernel)
set_option maxRecDepth 100000 in
theorem ok_230 : okM mTab Mx230 ∧ plainName Mx230.1.cls = true := okM_of (pss := [[], [1353], [], [], [], [], [], [1609, 1611, 65, 116, 1612], [], [], [], [], [], [1707, 1709, 81, 116, 1710], [1711, 1713, 82, 116, 1714], [], [], [], [], [1353], [], [], [1634, 1636, 71, 116, 1637], [], [], [1353], [], [], [], [1353], [], [], [], [], [], [], []]) (by decide +kernel) (by decide +kernel)
set_option maxRecDepth 100000 in
theorem ok_231 : okM mTab Mx231 ∧ plainName Mx231.1.cls = true := okM_of (pss := [[], [], [], [], [], [], [1489, 1491, 44, 116, 1492], [], [], [], [], [], [1744, 1746, 85, 116, 1747], [], [], [], [], [], [], [], [], [], [], [], []]) (by decide +kernel) (by decide +kernel)
set_option maxRecDepth 100000 in
theorem ok_232 : okM mTab Mx232 ∧ plainName Mx232.1.cls = true := okM_of (pss := [[], [], [1352], [], [], [], [1691, 1693, 78, 116, 1694], [], [1586, 1588, 62, 116, 1589], [], [], [], [], [], [1602, 1603, 116, 1604], [], [], [], [], [], [1586, 1588, 62, 116, 1589], [], [], [], [], [], [], [], [], [1740, 1742, 84, 116, 1743], [], [], [], [], [1699, 1701, 80, 116, 1702], []]) (by decide +kernel) (by decide +kernel)
set_option maxRecDepth 100000 in
theorem ok_233 : okM mTab Mx233 ∧ plainName Mx233.1.cls = true := okM_of (pss := [[], [], [1352], [], [], [], [], [], [], [1528, 1530, 51, 116, 1531], [], [], [], [1740, 1742, 84, 116, 1743], [1727, 471, 131, 472], [], [], [], [], [], [], [], [1740, 1742, 84, 116, 1743], [1727, 471, 131, 472], [], [], [], [], [], [], [], [], [], [], [1699, 1701, 80, 116, 1702], [], [], [], [1699, 1701, 80, 116, 1702], [], [], [], [], [], [], []]) (by decide +kernel) (by decide +kernel)
set_option maxRecDepth 100000 in
theorem ok_234 : okM mTab Mx234 ∧ plainName Mx234.1.cls = true := okM_of (pss := [[], [], [1352], [], [], [], [], [], [], [1528, 1530, 51, 116, 1531], [], [], [], [], [], [], [1699, 1701, 80, 116, 1702], [], [], [], [1699, 1701, 80, 116, 1702], [], [], [], [], [], [], []]) (by decide +kernel) (by decide +kernel)
