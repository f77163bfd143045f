theorem hc_0 : ∀ j, j < 40 → ¬ 40 * 0 + j = 0 → 40 * 0 + j < 292 → ∃ i, i < 1984 ∧ am_tk i = some (.code (am_y (40 * 0 + j)) (am_bc (40 * 0 + j)) (am_mL (40 * 0 + j)) (am_rt (40 * 0 + j)))
  | 0, _, h, _ => absurd rfl h
  | 1, _, _, _ => ⟨134, by decide, rfl⟩
  | 2, _, _, _ => ⟨1308, by decide, rfl⟩
  | 3, _, _, _ => ⟨578, by decide, rfl⟩
  | 4, _, _, _ => ⟨1585, by decide, rfl⟩
  | 5, _, _, _ => ⟨590, by decide, rfl⟩
  | 6, _, _, _ => ⟨1592, by decide, rfl⟩
  | 7, _, _, _ => ⟨594, by decide, rfl⟩
  | 8, _, _, _ => ⟨1596, by decide, rfl⟩
  | 9, _, _, _ => ⟨866, by decide, rfl⟩
  | 10, _, _, _ => ⟨1696, by decide, rfl⟩
  | 11, _, _, _ => ⟨870, by decide, rfl⟩
  | 12, _, _, _ => ⟨1700, by decide, rfl⟩
  | 13, _, _, _ => ⟨894, by decide, rfl⟩
  | 14, _, _, _ => ⟨1710, by decide, rfl⟩
  | 15, _, _, _ => ⟨910, by decide, rfl⟩
  | 16, _, _, _ => ⟨1717, by decide, rfl⟩
  | 17, _, _, _ => ⟨953, by decide, rfl⟩
  | 18, _, _, _ => ⟨1742, by decide, rfl⟩
  | 19, _, _, _ => ⟨969, by decide, rfl⟩
  | 20, _, _, _ => ⟨1764, by decide, rfl⟩
  | 21, _, _, _ => ⟨991, by decide, rfl⟩
  | 22, _, _, _ => ⟨1777, by decide, rfl⟩
  | 23, _, _, _ => ⟨1002, by decide, rfl⟩
  | 24, _, _, _ => ⟨1784, by decide, rfl⟩
  | 25, _, _, _ => ⟨1010, by decide, rfl⟩
  | 26, _, _, _ => ⟨1788, by decide, rfl⟩
  | 27, _, _, _ => ⟨1028, by decide, rfl⟩
  | 28, _, _, _ => ⟨1792, by decide, rfl⟩
  | 29, _, _, _ => ⟨1063, by decide, rfl⟩
  | 30, _, _, _ => ⟨1811, by decide, rfl⟩
  | 31, _, _, _ => ⟨1071, by decide, rfl⟩
  | 32, _, _, _ => ⟨1815, by decide, rfl⟩
  | 33, _, _, _ => ⟨1075, by decide, rfl⟩
  | 34, _, _, _ => ⟨1822, by decide, rfl⟩
  | 35, _, _, _ => ⟨1094, by decide, rfl⟩
  | 36, _, _, _ => ⟨1826, by decide, rfl⟩
  | 37, _, _, _ => ⟨1099, by decide, rfl⟩
  | 38, _, _, _ => ⟨1831, by decide, rfl⟩
  | 39, _, _, _ => ⟨1132, by decide, rfl⟩
  | _ + 40, h, _, _ => absurd h (by omega)
theorem hc_1 : ∀ j, j < 40 → ¬ 40 * 1 + j = 0 → 40 * 1 + j < 292 → ∃ i, i < 1984 ∧ am_tk i = some (.code (am_y (40 * 1 + j)) (am_bc (40 * 1 + j)) (am_mL (40 * 1 + j)) (am_rt (40 * 1 + j)))
  | 0, _, _, _ => ⟨1848, by decide, rfl⟩
  | 1, _, _, _ => ⟨1143, by decide, rfl⟩
  | 2, _, _, _ => ⟨1855, by decide, rfl⟩
  | 3, _, _, _ => ⟨1152, by decide, rfl⟩
  | 4, _, _, _ => ⟨1859, by decide, rfl⟩
  | 5, _, _, _ => ⟨1161, by decide, rfl⟩
  | 6, _, _, _ => ⟨1863, by decide, rfl⟩
  | 7, _, _, _ => ⟨1193, by decide, rfl⟩
  | 8, _, _, _ => ⟨1873, by decide, rfl⟩
  | 9, _, _, _ => ⟨1213, by decide, rfl⟩
  | 10, _, _, _ => ⟨1880, by decide, rfl⟩
  | 11, _, _, _ => ⟨1218, by decide, rfl⟩
  | 12, _, _, _ => ⟨1888, by decide, rfl⟩
  | 13, _, _, _ => ⟨1227, by decide, rfl⟩
  | 14, _, _, _ => ⟨1892, by decide, rfl⟩
  | 15, _, _, _ => ⟨1231, by decide, rfl⟩
  | 16, _, _, _ => ⟨1896, by decide, rfl⟩
  | 17, _, _, _ => ⟨1239, by decide, rfl⟩
  | 18, _, _, _ => ⟨1900, by decide, rfl⟩
  | 19, _, _, _ => ⟨1243, by decide, rfl⟩
  | 20, _, _, _ => ⟨1904, by decide, rfl⟩
  | 21, _, _, _ => ⟨1265, by decide, rfl⟩
  | 22, _, _, _ => ⟨1911, by decide, rfl⟩
  | 23, _, _, _ => ⟨1274, by decide, rfl⟩
  | 24, _, _, _ => ⟨1915, by decide, rfl⟩
  | 25, _, _, _ => ⟨1282, by decide, rfl⟩
  | 26, _, _, _ => ⟨1919, by decide, rfl⟩
  | 27, _, _, _ => ⟨1290, by decide, rfl⟩
  | 28, _, _, _ => ⟨1923, by decide, rfl⟩
  | 29, _, _, _ => ⟨1298, by decide, rfl⟩
  | 30, _, _, _ => ⟨1927, by decide, rfl⟩
  | 31, _, _, _ => ⟨142, by decide, rfl⟩
  | 32, _, _, _ => ⟨220, by decide, rfl⟩
  | 33, _, _, _ => ⟨293, by decide, rfl⟩
  | 34, _, _, _ => ⟨335, by decide, rfl⟩
  | 35, _, _, _ => ⟨344, by decide, rfl⟩
  | 36, _, _, _ => ⟨366, by decide, rfl⟩
  | 37, _, _, _ => ⟨381, by decide, rfl⟩
  | 38, _, _, _ => ⟨403, by decide, rfl⟩
  | 39, _, _, _ => ⟨434, by decide, rfl⟩
  | _ + 40, h, _, _ => absurd h (by omega)
theorem hc_2 : ∀ j, j < 40 → ¬ 40 * 2 + j = 0 → 40 * 2 + j < 292 → ∃ i, i < 1984 ∧ am_tk i = some (.code (am_y (40 * 2 + j)) (am_bc (40 * 2 + j)) (am_mL (40 * 2 + j)) (am_rt (40 * 2 + j)))
  | 0, _, _, _ => ⟨468, by decide, rfl⟩
  | 1, _, _, _ => ⟨502, by decide, rfl⟩
  | 2, _, _, _ => ⟨1312, by decide, rfl⟩
  | 3, _, _, _ => ⟨582, by decide, rfl⟩
  | 4, _, _, _ => ⟨586, by decide, rfl⟩
  | 5, _, _, _ => ⟨1588, by decide, rfl⟩
  | 6, _, _, _ => ⟨598, by decide, rfl⟩
  | 7, _, _, _ => ⟨843, by decide, rfl⟩
  | 8, _, _, _ => ⟨854, by decide, rfl⟩
  | 9, _, _, _ => ⟨862, by decide, rfl⟩
  | 10, _, _, _ => ⟨1599, by decide, rfl⟩
  | 11, _, _, _ => ⟨1617, by decide, rfl⟩
  | 12, _, _, _ => ⟨1620, by decide, rfl⟩
  | 13, _, _, _ => ⟨1686, by decide, rfl⟩
  | 14, _, _, _ => ⟨873, by decide, rfl⟩
  | 15, _, _, _ => ⟨878, by decide, rfl⟩
  | 16, _, _, _ => ⟨882, by decide, rfl⟩
  | 17, _, _, _ => ⟨886, by decide, rfl⟩
  | 18, _, _, _ => ⟨890, by decide, rfl⟩
  | 19, _, _, _ => ⟨1703, by decide, rfl⟩
  | 20, _, _, _ => ⟨897, by decide, rfl⟩
  | 21, _, _, _ => ⟨902, by decide, rfl⟩
  | 22, _, _, _ => ⟨906, by decide, rfl⟩
  | 23, _, _, _ => ⟨1713, by decide, rfl⟩
  | 24, _, _, _ => ⟨913, by decide, rfl⟩
  | 25, _, _, _ => ⟨916, by decide, rfl⟩
  | 26, _, _, _ => ⟨920, by decide, rfl⟩
  | 27, _, _, _ => ⟨1720, by decide, rfl⟩
  | 28, _, _, _ => ⟨1723, by decide, rfl⟩
  | 29, _, _, _ => ⟨1726, by decide, rfl⟩
  | 30, _, _, _ => ⟨1738, by decide, rfl⟩
  | 31, _, _, _ => ⟨957, by decide, rfl⟩
  | 32, _, _, _ => ⟨1745, by decide, rfl⟩
  | 33, _, _, _ => ⟨974, by decide, rfl⟩
  | 34, _, _, _ => ⟨979, by decide, rfl⟩
  | 35, _, _, _ => ⟨1767, by decide, rfl⟩
  | 36, _, _, _ => ⟨1773, by decide, rfl⟩
  | 37, _, _, _ => ⟨995, by decide, rfl⟩
  | 38, _, _, _ => ⟨924, by decide, rfl⟩
  | 39, _, _, _ => ⟨1706, by decide, rfl⟩
  | _ + 40, h, _, _ => absurd h (by omega)
theorem hc_3 : ∀ j, j < 40 → ¬ 40 * 3 + j = 0 → 40 * 3 + j < 292 → ∃ i, i < 1984 ∧ am_tk i = some (.code (am_y (40 * 3 + j)) (am_bc (40 * 3 + j)) (am_mL (40 * 3 + j)) (am_rt (40 * 3 + j)))
  | 0, _, _, _ => ⟨1780, by decide, rfl⟩
  | 1, _, _, _ => ⟨1006, by decide, rfl⟩
  | 2, _, _, _ => ⟨1014, by decide, rfl⟩
  | 3, _, _, _ => ⟨965, by decide, rfl⟩
  | 4, _, _, _ => ⟨1033, by decide, rfl⟩
  | 5, _, _, _ => ⟨1037, by decide, rfl⟩
  | 6, _, _, _ => ⟨1058, by decide, rfl⟩
  | 7, _, _, _ => ⟨1795, by decide, rfl⟩
  | 8, _, _, _ => ⟨1067, by decide, rfl⟩
  | 9, _, _, _ => ⟨1760, by decide, rfl⟩
  | 10, _, _, _ => ⟨1754, by decide, rfl⟩
  | 11, _, _, _ => ⟨1729, by decide, rfl⟩
  | 12, _, _, _ => ⟨1801, by decide, rfl⟩
  | 13, _, _, _ => ⟨1692, by decide, rfl⟩
  | 14, _, _, _ => ⟨1818, by decide, rfl⟩
  | 15, _, _, _ => ⟨1079, by decide, rfl⟩
  | 16, _, _, _ => ⟨1084, by decide, rfl⟩
  | 17, _, _, _ => ⟨1102, by decide, rfl⟩
  | 18, _, _, _ => ⟨1106, by decide, rfl⟩
  | 19, _, _, _ => ⟨1834, by decide, rfl⟩
  | 20, _, _, _ => ⟨1837, by decide, rfl⟩
  | 21, _, _, _ => ⟨1841, by decide, rfl⟩
  | 22, _, _, _ => ⟨1136, by decide, rfl⟩
  | 23, _, _, _ => ⟨1851, by decide, rfl⟩
  | 24, _, _, _ => ⟨1147, by decide, rfl⟩
  | 25, _, _, _ => ⟨1117, by decide, rfl⟩
  | 26, _, _, _ => ⟨1844, by decide, rfl⟩
  | 27, _, _, _ => ⟨1156, by decide, rfl⟩
  | 28, _, _, _ => ⟨1770, by decide, rfl⟩
  | 29, _, _, _ => ⟨1165, by decide, rfl⟩
  | 30, _, _, _ => ⟨1866, by decide, rfl⟩
  | 31, _, _, _ => ⟨1869, by decide, rfl⟩
  | 32, _, _, _ => ⟨1197, by decide, rfl⟩
  | 33, _, _, _ => ⟨1209, by decide, rfl⟩
  | 34, _, _, _ => ⟨1876, by decide, rfl⟩
  | 35, _, _, _ => ⟨1883, by decide, rfl⟩
  | 36, _, _, _ => ⟨721, by decide, rfl⟩
  | 37, _, _, _ => ⟨1222, by decide, rfl⟩
  | 38, _, _, _ => ⟨1689, by decide, rfl⟩
  | 39, _, _, _ => ⟨1235, by decide, rfl⟩
  | _ + 40, h, _, _ => absurd h (by omega)
theorem hc_4 : ∀ j, j < 40 → ¬ 40 * 4 + j = 0 → 40 * 4 + j < 292 → ∃ i, i < 1984 ∧ am_tk i = some (.code (am_y (40 * 4 + j)) (am_bc (40 * 4 + j)) (am_mL (40 * 4 + j)) (am_rt (40 * 4 + j)))
  | 0, _, _, _ => ⟨1247, by decide, rfl⟩
  | 1, _, _, _ => ⟨1251, by decide, rfl⟩
  | 2, _, _, _ => ⟨1907, by decide, rfl⟩
  | 3, _, _, _ => ⟨1269, by decide, rfl⟩
  | 4, _, _, _ => ⟨1278, by decide, rfl⟩
  | 5, _, _, _ => ⟨1286, by decide, rfl⟩
  | 6, _, _, _ => ⟨1294, by decide, rfl⟩
  | 7, _, _, _ => ⟨1302, by decide, rfl⟩
  | 8, _, _, _ => ⟨929, by decide, rfl⟩
  | 9, _, _, _ => ⟨147, by decide, rfl⟩
  | 10, _, _, _ => ⟨156, by decide, rfl⟩
  | 11, _, _, _ => ⟨189, by decide, rfl⟩
  | 12, _, _, _ => ⟨224, by decide, rfl⟩
  | 13, _, _, _ => ⟨1315, by decide, rfl⟩
  | 14, _, _, _ => ⟨602, by decide, rfl⟩
  | 15, _, _, _ => ⟨606, by decide, rfl⟩
  | 16, _, _, _ => ⟨686, by decide, rfl⟩
  | 17, _, _, _ => ⟨738, by decide, rfl⟩
  | 18, _, _, _ => ⟨776, by decide, rfl⟩
  | 19, _, _, _ => ⟨783, by decide, rfl⟩
  | 20, _, _, _ => ⟨794, by decide, rfl⟩
  | 21, _, _, _ => ⟨801, by decide, rfl⟩
  | 22, _, _, _ => ⟨692, by decide, rfl⟩
  | 23, _, _, _ => ⟨846, by decide, rfl⟩
  | 24, _, _, _ => ⟨710, by decide, rfl⟩
  | 25, _, _, _ => ⟨1602, by decide, rfl⟩
  | 26, _, _, _ => ⟨1605, by decide, rfl⟩
  | 27, _, _, _ => ⟨1608, by decide, rfl⟩
  | 28, _, _, _ => ⟨1611, by decide, rfl⟩
  | 29, _, _, _ => ⟨1614, by decide, rfl⟩
  | 30, _, _, _ => ⟨1623, by decide, rfl⟩
  | 31, _, _, _ => ⟨1632, by decide, rfl⟩
  | 32, _, _, _ => ⟨1650, by decide, rfl⟩
  | 33, _, _, _ => ⟨1659, by decide, rfl⟩
  | 34, _, _, _ => ⟨1677, by decide, rfl⟩
  | 35, _, _, _ => ⟨1680, by decide, rfl⟩
  | 36, _, _, _ => ⟨1683, by decide, rfl⟩
  | 37, _, _, _ => ⟨1626, by decide, rfl⟩
  | 38, _, _, _ => ⟨934, by decide, rfl⟩
  | 39, _, _, _ => ⟨940, by decide, rfl⟩
  | _ + 40, h, _, _ => absurd h (by omega)
theorem hc_5 : ∀ j, j < 40 → ¬ 40 * 5 + j = 0 → 40 * 5 + j < 292 → ∃ i, i < 1984 ∧ am_tk i = some (.code (am_y (40 * 5 + j)) (am_bc (40 * 5 + j)) (am_mL (40 * 5 + j)) (am_rt (40 * 5 + j)))
  | 0, _, _, _ => ⟨949, by decide, rfl⟩
  | 1, _, _, _ => ⟨1732, by decide, rfl⟩
  | 2, _, _, _ => ⟨961, by decide, rfl⟩
  | 3, _, _, _ => ⟨1748, by decide, rfl⟩
  | 4, _, _, _ => ⟨983, by decide, rfl⟩
  | 5, _, _, _ => ⟨987, by decide, rfl⟩
  | 6, _, _, _ => ⟨745, by decide, rfl⟩
  | 7, _, _, _ => ⟨1018, by decide, rfl⟩
  | 8, _, _, _ => ⟨1021, by decide, rfl⟩
  | 9, _, _, _ => ⟨725, by decide, rfl⟩
  | 10, _, _, _ => ⟨1041, by decide, rfl⟩
  | 11, _, _, _ => ⟨1798, by decide, rfl⟩
  | 12, _, _, _ => ⟨1804, by decide, rfl⟩
  | 13, _, _, _ => ⟨1751, by decide, rfl⟩
  | 14, _, _, _ => ⟨1757, by decide, rfl⟩
  | 15, _, _, _ => ⟨1807, by decide, rfl⟩
  | 16, _, _, _ => ⟨1088, by decide, rfl⟩
  | 17, _, _, _ => ⟨1113, by decide, rfl⟩
  | 18, _, _, _ => ⟨1169, by decide, rfl⟩
  | 19, _, _, _ => ⟨1176, by decide, rfl⟩
  | 20, _, _, _ => ⟨1182, by decide, rfl⟩
  | 21, _, _, _ => ⟨1187, by decide, rfl⟩
  | 22, _, _, _ => ⟨1201, by decide, rfl⟩
  | 23, _, _, _ => ⟨1204, by decide, rfl⟩
  | 24, _, _, _ => ⟨1256, by decide, rfl⟩
  | 25, _, _, _ => ⟨151, by decide, rfl⟩
  | 26, _, _, _ => ⟨160, by decide, rfl⟩
  | 27, _, _, _ => ⟨163, by decide, rfl⟩
  | 28, _, _, _ => ⟨609, by decide, rfl⟩
  | 29, _, _, _ => ⟨612, by decide, rfl⟩
  | 30, _, _, _ => ⟨689, by decide, rfl⟩
  | 31, _, _, _ => ⟨698, by decide, rfl⟩
  | 32, _, _, _ => ⟨731, by decide, rfl⟩
  | 33, _, _, _ => ⟨695, by decide, rfl⟩
  | 34, _, _, _ => ⟨735, by decide, rfl⟩
  | 35, _, _, _ => ⟨742, by decide, rfl⟩
  | 36, _, _, _ => ⟨751, by decide, rfl⟩
  | 37, _, _, _ => ⟨754, by decide, rfl⟩
  | 38, _, _, _ => ⟨780, by decide, rfl⟩
  | 39, _, _, _ => ⟨786, by decide, rfl⟩
  | _ + 40, h, _, _ => absurd h (by omega)
theorem hc_6 : ∀ j, j < 40 → ¬ 40 * 6 + j = 0 → 40 * 6 + j < 292 → ∃ i, i < 1984 ∧ am_tk i = some (.code (am_y (40 * 6 + j)) (am_bc (40 * 6 + j)) (am_mL (40 * 6 + j)) (am_rt (40 * 6 + j)))
  | 0, _, _, _ => ⟨791, by decide, rfl⟩
  | 1, _, _, _ => ⟨728, by decide, rfl⟩
  | 2, _, _, _ => ⟨798, by decide, rfl⟩
  | 3, _, _, _ => ⟨761, by decide, rfl⟩
  | 4, _, _, _ => ⟨805, by decide, rfl⟩
  | 5, _, _, _ => ⟨808, by decide, rfl⟩
  | 6, _, _, _ => ⟨811, by decide, rfl⟩
  | 7, _, _, _ => ⟨821, by decide, rfl⟩
  | 8, _, _, _ => ⟨1629, by decide, rfl⟩
  | 9, _, _, _ => ⟨1635, by decide, rfl⟩
  | 10, _, _, _ => ⟨1644, by decide, rfl⟩
  | 11, _, _, _ => ⟨1638, by decide, rfl⟩
  | 12, _, _, _ => ⟨1647, by decide, rfl⟩
  | 13, _, _, _ => ⟨1653, by decide, rfl⟩
  | 14, _, _, _ => ⟨1656, by decide, rfl⟩
  | 15, _, _, _ => ⟨1662, by decide, rfl⟩
  | 16, _, _, _ => ⟨1674, by decide, rfl⟩
  | 17, _, _, _ => ⟨1641, by decide, rfl⟩
  | 18, _, _, _ => ⟨943, by decide, rfl⟩
  | 19, _, _, _ => ⟨1735, by decide, rfl⟩
  | 20, _, _, _ => ⟨748, by decide, rfl⟩
  | 21, _, _, _ => ⟨1044, by decide, rfl⟩
  | 22, _, _, _ => ⟨1047, by decide, rfl⟩
  | 23, _, _, _ => ⟨1054, by decide, rfl⟩
  | 24, _, _, _ => ⟨1123, by decide, rfl⟩
  | 25, _, _, _ => ⟨615, by decide, rfl⟩
  | 26, _, _, _ => ⟨618, by decide, rfl⟩
  | 27, _, _, _ => ⟨621, by decide, rfl⟩
  | 28, _, _, _ => ⟨624, by decide, rfl⟩
  | 29, _, _, _ => ⟨628, by decide, rfl⟩
  | 30, _, _, _ => ⟨702, by decide, rfl⟩
  | 31, _, _, _ => ⟨758, by decide, rfl⟩
  | 32, _, _, _ => ⟨769, by decide, rfl⟩
  | 33, _, _, _ => ⟨773, by decide, rfl⟩
  | 34, _, _, _ => ⟨717, by decide, rfl⟩
  | 35, _, _, _ => ⟨765, by decide, rfl⟩
  | 36, _, _, _ => ⟨706, by decide, rfl⟩
  | 37, _, _, _ => ⟨839, by decide, rfl⟩
  | 38, _, _, _ => ⟨814, by decide, rfl⟩
  | 39, _, _, _ => ⟨817, by decide, rfl⟩
  | _ + 40, h, _, _ => absurd h (by omega)
theorem hc_7 : ∀ j, j < 40 → ¬ 40 * 7 + j = 0 → 40 * 7 + j < 292 → ∃ i, i < 1984 ∧ am_tk i = some (.code (am_y (40 * 7 + j)) (am_bc (40 * 7 + j)) (am_mL (40 * 7 + j)) (am_rt (40 * 7 + j)))
  | 0, _, _, _ => ⟨828, by decide, rfl⟩
  | 1, _, _, _ => ⟨831, by decide, rfl⟩
  | 2, _, _, _ => ⟨1665, by decide, rfl⟩
  | 3, _, _, _ => ⟨1671, by decide, rfl⟩
  | 4, _, _, _ => ⟨632, by decide, rfl⟩
  | 5, _, _, _ => ⟨713, by decide, rfl⟩
  | 6, _, _, _ => ⟨825, by decide, rfl⟩
  | 7, _, _, _ => ⟨834, by decide, rfl⟩
  | 8, _, _, _ => ⟨1668, by decide, rfl⟩
  | 9, _, _, _ => ⟨636, by decide, rfl⟩
  | 10, _, _, _ => ⟨639, by decide, rfl⟩
  | 11, _, _, _ => ⟨648, by decide, rfl⟩
  | _ + 12, _, _, h => absurd h (by omega)
theorem am_hc (a : Nat) (h0 : ¬ a = 0) (h1 : a < 292) : ∃ i, i < 1984 ∧ am_tk i = some (.code (am_y a) (am_bc a) (am_mL a) (am_rt a)) := by
  have h := Nat.div_add_mod a 40
  have hj := Nat.mod_lt a (show 0 < 40 by omega)
  generalize a / 40 = k at h
  generalize a % 40 = j at h hj
  subst h
  match k with
  | 0 => exact hc_0 j hj h0 h1
  | 1 => exact hc_1 j hj h0 h1
  | 2 => exact hc_2 j hj h0 h1
  | 3 => exact hc_3 j hj h0 h1
  | 4 => exact hc_4 j hj h0 h1
  | 5 => exact hc_5 j hj h0 h1
  | 6 => exact hc_6 j hj h0 h1
  | 7 => exact hc_7 j hj h0 h1
  | _ + 8 => omega
def am_mh : List (List Nat) := [[107, 108, 125, 108, 125, 108, 125, 108, 125, 108, 125, 108, 125, 108, 125, 108, 125, 108, 125, 108, 125, 108, 125, 108, 125, 108, 125, 108, 125, 108, 125, 108, 125, 108, 125, 108, 125, 108, 125, 108],
  [125, 108, 125, 108, 125, 108, 125, 108, 125, 108, 125, 108, 125, 108, 125, 108, 125, 108, 125, 108, 125, 108, 125, 108, 125, 108, 125, 108, 125, 108, 125, 109, 114, 116, 117, 118, 119, 120, 121, 122],
  [123, 124, 125, 109, 109, 125, 116, 114, 117, 120, 125, 125, 125, 125, 108, 117, 117, 117, 117, 125, 108, 117, 117, 125, 108, 108, 119, 125, 125, 125, 125, 119, 125, 120, 119, 125, 125, 117, 117, 125],
  [125, 120, 123, 119, 119, 121, 121, 125, 121, 125, 125, 125, 125, 125, 125, 118, 121, 108, 122, 125, 125, 125, 122, 125, 122, 129, 125, 123, 125, 123, 125, 125, 123, 117, 125, 125, 114, 121, 125, 124],
  [124, 124, 125, 124, 124, 120, 120, 117, 117, 110, 110, 109, 115, 125, 114, 109, 116, 116, 116, 116, 116, 116, 116, 114, 114, 125, 125, 125, 125, 125, 125, 125, 125, 125, 125, 125, 125, 125, 118, 119],
  [118, 125, 119, 125, 117, 117, 115, 117, 123, 114, 121, 125, 125, 125, 125, 125, 121, 122, 123, 123, 123, 123, 117, 123, 124, 110, 110, 111, 109, 109, 116, 116, 116, 116, 114, 114, 116, 116, 114, 116],
  [114, 116, 114, 116, 114, 116, 116, 114, 125, 125, 125, 125, 125, 125, 125, 125, 125, 125, 119, 125, 115, 121, 121, 121, 122, 109, 109, 109, 109, 110, 114, 114, 114, 114, 114, 116, 114, 114, 116, 116],
  [116, 116, 125, 125, 110, 114, 114, 116, 125, 111, 111, 111]]
def am_hB (a : Nat) : Bool := match (am_mh.getD (a / 40) [])[a % 40]? with
  | some j => decide (am_tk j = some (.initialized (am_y a).cls)) && (decide (j < 1984) && (decide ((am_y a).cls ≠ "java/lang/invoke/MethodHandle") && (decide ((am_y a).cls ≠ "java/lang/invoke/VarHandle") && (decide ((parseMethodDescriptor (am_y a).desc).map (fun d => d.parameters.length) = some (am_np a)) && plainName (am_y a).cls))))
  | none => false
def am_callees (lo n : Nat) : List Nat := (List.range n).map (fun i => lo + i)
set_option maxRecDepth 100000 in
theorem hb_0 : (am_callees 1 30).all am_hB = true := by decide +kernel
set_option maxRecDepth 100000 in
theorem hb_1 : (am_callees 31 30).all am_hB = true := by decide +kernel
set_option maxRecDepth 100000 in
theorem hb_2 : (am_callees 61 30).all am_hB = true := by decide +kernel
set_option maxRecDepth 100000 in
theorem hb_3 : (am_callees 91 30).all am_hB = true := by decide +kernel
set_option maxRecDepth 100000 in
theorem hb_4 : (am_callees 121 30).all am_hB = true := by decide +kernel
set_option maxRecDepth 100000 in
theorem hb_5 : (am_callees 151 30).all am_hB = true := by decide +kernel
set_option maxRecDepth 100000 in
theorem hb_6 : (am_callees 181 30).all am_hB = true := by decide +kernel
set_option maxRecDepth 100000 in
theorem hb_7 : (am_callees 211 30).all am_hB = true := by decide +kernel
set_option maxRecDepth 100000 in
theorem hb_8 : (am_callees 241 30).all am_hB = true := by decide +kernel
set_option maxRecDepth 100000 in
theorem hb_9 : (am_callees 271 21).all am_hB = true := by decide +kernel
theorem am_hB_all (a : Nat) (h0 : ¬ a = 0) (h1 : a < 292) : am_hB a = true := by
  have key : ∀ lo n, (am_callees lo n).all am_hB = true → lo ≤ a → a < lo + n → am_hB a = true := fun lo n h h2 h3 => List.all_eq_true.mp h a (List.mem_map.mpr ⟨a - lo, List.mem_range.mpr (by omega), by omega⟩)
  by_cases z0 : a < 31
  · exact key _ _ hb_0 (by omega) z0
  by_cases z1 : a < 61
  · exact key _ _ hb_1 (by omega) z1
  by_cases z2 : a < 91
  · exact key _ _ hb_2 (by omega) z2
  by_cases z3 : a < 121
  · exact key _ _ hb_3 (by omega) z3
  by_cases z4 : a < 151
  · exact key _ _ hb_4 (by omega) z4
  by_cases z5 : a < 181
  · exact key _ _ hb_5 (by omega) z5
  by_cases z6 : a < 211
  · exact key _ _ hb_6 (by omega) z6
  by_cases z7 : a < 241
  · exact key _ _ hb_7 (by omega) z7
  by_cases z8 : a < 271
  · exact key _ _ hb_8 (by omega) z8
  by_cases z9 : a < 292
  · exact key _ _ hb_9 (by omega) z9
  omega
theorem am_hB_ok {a : Nat} (h0 : ¬ a = 0) (h1 : a < 292) : am_mOk am_Tg am_y am_bc am_mL am_rt am_np a := by
  have h := am_hB_all a h0 h1
  obtain ⟨i, hi, hc⟩ := am_hc a h0 h1
  unfold am_hB at h
  split at h
  next j _ =>
    simp only [Bool.and_eq_true, decide_eq_true_eq] at h
    obtain ⟨h3, h4, h5, h6, h7, h8⟩ := h
    exact ⟨am_tk_good hc hi, am_tk_good h3 h4, h5, h6, h7, h8⟩
  next => cases h
def am_okCall (e : am_E) : Bool := if e.1 = 29 then decide (1 ≤ e.2.2.1) && decide (e.2.2.1 < 292) else true
def am_oc (es : List (Nat × am_E)) : Bool := es.all (fun q => am_okCall q.2)
set_option maxRecDepth 100000 in
theorem oc_0 : am_prog0.all am_oc = true := by decide +kernel
set_option maxRecDepth 100000 in
theorem oc_1 : am_prog1.all am_oc = true := by decide +kernel
set_option maxRecDepth 100000 in
theorem oc_2 : am_prog2.all am_oc = true := by decide +kernel
set_option maxRecDepth 100000 in
theorem oc_3 : am_prog3.all am_oc = true := by decide +kernel
set_option maxRecDepth 100000 in
theorem oc_4 : am_prog4.all am_oc = true := by decide +kernel
set_option maxRecDepth 100000 in
theorem oc_5 : am_prog5.all am_oc = true := by decide +kernel
set_option maxRecDepth 100000 in
theorem oc_6 : am_prog6.all am_oc = true := by decide +kernel
set_option maxRecDepth 100000 in
theorem oc_7 : am_prog7.all am_oc = true := by decide +kernel
theorem am_oc_all : ∀ c ∈ am_progs, c.all am_oc = true := List.forall_mem_cons.mpr ⟨oc_0, List.forall_mem_cons.mpr ⟨oc_1, List.forall_mem_cons.mpr ⟨oc_2, List.forall_mem_cons.mpr ⟨oc_3, List.forall_mem_cons.mpr ⟨oc_4, List.forall_mem_cons.mpr ⟨oc_5, List.forall_mem_cons.mpr ⟨oc_6, List.forall_mem_cons.mpr ⟨oc_7, fun _ h => absurd h List.not_mem_nil⟩⟩⟩⟩⟩⟩⟩⟩
theorem am_hm (mid pc : Nat) (e : am_E) (h : am_code mid pc = some e) (he : e.1 = 29) : am_mOk am_Tg am_y am_bc am_mL am_rt am_np e.2.2.1 := by
  have h1 : (pc, e) ∈ am_prog mid := am_find_mem h
  have h2 : am_okCall e = true := by
    unfold am_prog at h1
    rw [List.getD_eq_getElem?_getD, List.getD_eq_getElem?_getD] at h1
    cases hc : am_progs[mid / 40]? with
    | none => rw [hc] at h1; simp at h1
    | some c =>
      rw [hc] at h1
      have h3 := am_oc_all c (List.mem_of_getElem? hc)
      cases hd : c[mid % 40]? with
      | none => rw [Option.getD_some, hd] at h1; simp at h1
      | some es =>
        rw [Option.getD_some, hd] at h1
        have h4 := List.all_eq_true.mp h3 es (List.mem_of_getElem? hd)
        exact List.all_eq_true.mp h4 (pc, e) h1
  unfold am_okCall at h2
  rw [if_pos he] at h2
  simp only [Bool.and_eq_true, decide_eq_true_eq] at h2
  exact am_hB_ok (by omega) h2.2
