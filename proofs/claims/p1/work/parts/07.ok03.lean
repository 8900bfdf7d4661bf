set_option maxRecDepth 100000
theorem e_j43 : e_OkM 43 := e_OkM_i (p1 := 840) (p2 := 125) (by rfl) (by decide +kernel)
theorem e_k44_0 : e_okD (e_m 44).1.cls (e_m 44).1.name (e_m 44).2.1 (((e_m 44).2.2.2.2.drop 0).take 60) [[], [622], [570], [], [], [624], [], [], [], [], [], [], [], [624], [], [675, 365, 366], [202], [], [], [], [], [624], [275], [], [], [], [], [], [], [], [], [], [624], [229], [], [], [], [], [], [], [], [624], [240], [], [], [], [], [], [], [], [], [], [622], [560], [504], [], [], [], [], []] = true := by decide +kernel
theorem e_k44_60 : e_okD (e_m 44).1.cls (e_m 44).1.name (e_m 44).2.1 (((e_m 44).2.2.2.2.drop 60).take 60) [[], []] = true := by decide +kernel
theorem e_k44 : e_Ok 44 := by
  intro pc q hm
  have hm : (pc, q) ∈ (e_m 44).2.2.2.2.drop 0 := hm
  rcases e_Ok_c e_k44_0 hm with h | hm
  · exact h
  rcases e_Ok_c e_k44_60 hm with h | hm
  · exact h
  have hl : (e_m 44).2.2.2.2.length ≤ 120 := by decide +kernel
  rw [List.drop_eq_nil_of_le (by omega)] at hm
  cases hm
theorem e_j44 : e_OkM 44 := e_OkM_i (p1 := 844) (p2 := 125) (by rfl) (by decide +kernel)
theorem e_k45_0 : e_okD (e_m 45).1.cls (e_m 45).1.name (e_m 45).2.1 (((e_m 45).2.2.2.2.drop 0).take 60) [[], [], [], [], [622], [564], [], [], [], [], [], [], [], [], [], [622], [562], [], [], [], [], [], [], []] = true := by decide +kernel
theorem e_k45 : e_Ok 45 := by
  intro pc q hm
  have hm : (pc, q) ∈ (e_m 45).2.2.2.2.drop 0 := hm
  rcases e_Ok_c e_k45_0 hm with h | hm
  · exact h
  have hl : (e_m 45).2.2.2.2.length ≤ 60 := by decide +kernel
  rw [List.drop_eq_nil_of_le (by omega)] at hm
  cases hm
theorem e_j45 : e_OkM 45 := e_OkM_i (p1 := 848) (p2 := 125) (by rfl) (by decide +kernel)
theorem e_k46_0 : e_okD (e_m 46).1.cls (e_m 46).1.name (e_m 46).2.1 (((e_m 46).2.2.2.2.drop 0).take 60) [[], [], [], [622], [576], [], [], [622], [577], [], [], [622], [568], [], [], [622], [556], [415], [], [], [622], [564], [], [], [622], [558], [466], [], [], [622], [558], [468], [], [], [622], [560], [508], [], [], [622], [579], [], [], [622], [558], [463], [], [], []] = true := by decide +kernel
theorem e_k46 : e_Ok 46 := by
  intro pc q hm
  have hm : (pc, q) ∈ (e_m 46).2.2.2.2.drop 0 := hm
  rcases e_Ok_c e_k46_0 hm with h | hm
  · exact h
  have hl : (e_m 46).2.2.2.2.length ≤ 60 := by decide +kernel
  rw [List.drop_eq_nil_of_le (by omega)] at hm
  cases hm
theorem e_j46 : e_OkM 46 := e_OkM_i (p1 := 852) (p2 := 125) (by rfl) (by decide +kernel)
theorem e_k47_0 : e_okD (e_m 47).1.cls (e_m 47).1.name (e_m 47).2.1 (((e_m 47).2.2.2.2.drop 0).take 60) [[], [1435, 152, 153], [], [], [173], [1439], [], [], [173], [1440], [], [], [173], [1442], [], [], [173], [1449], [], [], [173], [1450], [], [], [173], [1451], [], [], [173], [1453], [], [], [173], [1454], [], [], [173], [1455], [], [], [173], [1457], [], [], [173], [1458], [], [], [173], [1459], [], [], [173], [1460], [], [], [173], [1461], [], []] = true := by decide +kernel
theorem e_k47_60 : e_okD (e_m 47).1.cls (e_m 47).1.name (e_m 47).2.1 (((e_m 47).2.2.2.2.drop 60).take 60) [[173], [1462], [], [], [173], [1463], [], [], [1714], [1464], [], [], [173], [1465], [], [], [173], [1466], [], [], [173], [1467], [], [], [173], [1468], [], [], [1471], [], [], [1472], [], [], [1473], [], [], [1474], [], [], [1475], [], [], [173], [1477], [], [], [173], [1485], [], [], [173], [1486], [], [], [173], [1487], [], [], [173]] = true := by decide +kernel
theorem e_k47_120 : e_okD (e_m 47).1.cls (e_m 47).1.name (e_m 47).2.1 (((e_m 47).2.2.2.2.drop 120).take 60) [[1488], [], [], [173], [1490], [], [], [173], [1492], [], [], [173], [1493], [], [1436], [173], [1496], [], [], [173], [1498], [], [], [173], [1499], [], [], [173], [1500], [], [], [173], [1501], [], [], [173], [1502], [], [], [173], [1503], [], [], [173], [1504], [], [], [173], [1505], [], [], [173], [1506], [], [], [173], [1511], [], [], [173]] = true := by decide +kernel
theorem e_k47_180 : e_okD (e_m 47).1.cls (e_m 47).1.name (e_m 47).2.1 (((e_m 47).2.2.2.2.drop 180).take 60) [[1512], [], [], [173], [1513], [], [], [173], [1514], [], [], [1714], [1515], [], [], [173], [1517], [], [], [173], [1520], [], [], [173], [1521], [], [], [173], [1522], [], [], [173], [1526], []] = true := by decide +kernel
theorem e_k47 : e_Ok 47 := by
  intro pc q hm
  have hm : (pc, q) ∈ (e_m 47).2.2.2.2.drop 0 := hm
  rcases e_Ok_c e_k47_0 hm with h | hm
  · exact h
  rcases e_Ok_c e_k47_60 hm with h | hm
  · exact h
  rcases e_Ok_c e_k47_120 hm with h | hm
  · exact h
  rcases e_Ok_c e_k47_180 hm with h | hm
  · exact h
  have hl : (e_m 47).2.2.2.2.length ≤ 240 := by decide +kernel
  rw [List.drop_eq_nil_of_le (by omega)] at hm
  cases hm
theorem e_j47 : e_OkM 47 := e_OkM_i (p1 := 1434) (p2 := 137) (by rfl) (by decide +kernel)
theorem e_k48_0 : e_okD (e_m 48).1.cls (e_m 48).1.name (e_m 48).2.1 (((e_m 48).2.2.2.2.drop 0).take 60) [[], [1437], []] = true := by decide +kernel
theorem e_k48 : e_Ok 48 := by
  intro pc q hm
  have hm : (pc, q) ∈ (e_m 48).2.2.2.2.drop 0 := hm
  rcases e_Ok_c e_k48_0 hm with h | hm
  · exact h
  have hl : (e_m 48).2.2.2.2.length ≤ 60 := by decide +kernel
  rw [List.drop_eq_nil_of_le (by omega)] at hm
  cases hm
theorem e_j48 : e_OkM 48 := e_OkM_i (p1 := 1718) (p2 := 137) (by rfl) (by decide +kernel)
theorem e_k49_0 : e_okD (e_m 49).1.cls (e_m 49).1.name (e_m 49).2.1 (((e_m 49).2.2.2.2.drop 0).take 60) [[], [], [1437], [], []] = true := by decide +kernel
theorem e_k49 : e_Ok 49 := by
  intro pc q hm
  have hm : (pc, q) ∈ (e_m 49).2.2.2.2.drop 0 := hm
  rcases e_Ok_c e_k49_0 hm with h | hm
  · exact h
  have hl : (e_m 49).2.2.2.2.length ≤ 60 := by decide +kernel
  rw [List.drop_eq_nil_of_le (by omega)] at hm
  cases hm
theorem e_j49 : e_OkM 49 := e_OkM_i (p1 := 1860) (p2 := 137) (by rfl) (by decide +kernel)
theorem e_k50_0 : e_okD (e_m 50).1.cls (e_m 50).1.name (e_m 50).2.1 (((e_m 50).2.2.2.2.drop 0).take 60) [[], [], [], [], [], [], [], [], [], []] = true := by decide +kernel
theorem e_k50 : e_Ok 50 := by
  intro pc q hm
  have hm : (pc, q) ∈ (e_m 50).2.2.2.2.drop 0 := hm
  rcases e_Ok_c e_k50_0 hm with h | hm
  · exact h
  have hl : (e_m 50).2.2.2.2.length ≤ 60 := by decide +kernel
  rw [List.drop_eq_nil_of_le (by omega)] at hm
  cases hm
theorem e_j50 : e_OkM 50 := e_OkM_i (p1 := 1742) (p2 := 137) (by rfl) (by decide +kernel)
theorem e_k51_0 : e_okD (e_m 51).1.cls (e_m 51).1.name (e_m 51).2.1 (((e_m 51).2.2.2.2.drop 0).take 60) [[], [], [1437], [], [], [], [], [], [], [], [1438], [], [], [], [], [], [], [], [], [], [], [], [], [], [1439], [], [1438], [], [], [], [], [], [1723], [], [], [], [], [], [1438], [], [], [1438], [], [], [], []] = true := by decide +kernel
theorem e_k51 : e_Ok 51 := by
  intro pc q hm
  have hm : (pc, q) ∈ (e_m 51).2.2.2.2.drop 0 := hm
  rcases e_Ok_c e_k51_0 hm with h | hm
  · exact h
  have hl : (e_m 51).2.2.2.2.length ≤ 60 := by decide +kernel
  rw [List.drop_eq_nil_of_le (by omega)] at hm
  cases hm
theorem e_j51 : e_OkM 51 := e_OkM_i (p1 := 1722) (p2 := 137) (by rfl) (by decide +kernel)
theorem e_k52_0 : e_okD (e_m 52).1.cls (e_m 52).1.name (e_m 52).2.1 (((e_m 52).2.2.2.2.drop 0).take 60) [[], [1519], [], [], [], [], [1518], [], [1441], [], [], [1440], [], [1518], [], [], [], [1740, 1741], [], [], [], [1519], [], [], [], [], [1518], [], [], [1518], [], [1440], [], [1518], [], [], [], []] = true := by decide +kernel
theorem e_k52 : e_Ok 52 := by
  intro pc q hm
  have hm : (pc, q) ∈ (e_m 52).2.2.2.2.drop 0 := hm
  rcases e_Ok_c e_k52_0 hm with h | hm
  · exact h
  have hl : (e_m 52).2.2.2.2.length ≤ 60 := by decide +kernel
  rw [List.drop_eq_nil_of_le (by omega)] at hm
  cases hm
theorem e_j52 : e_OkM 52 := e_OkM_i (p1 := 1739) (p2 := 137) (by rfl) (by decide +kernel)
theorem e_k53_0 : e_okD (e_m 53).1.cls (e_m 53).1.name (e_m 53).2.1 (((e_m 53).2.2.2.2.drop 0).take 60) [[], [], [1518], [], [], [1519], [], [], [1448], [], [], [], [], [1736, 1738, 66], [1448], [], [], [], [], [1448], [], [], [1519], [], [], [], [], [], [], [], [], [], [], [1736, 1738, 66], [1452], [], [], [], [], [1452], [], [], [1519], [], [], [], [], [], [], [], [], [], [], [1736, 1738, 66], [1456], [], [], [], [], [1456]] = true := by decide +kernel
