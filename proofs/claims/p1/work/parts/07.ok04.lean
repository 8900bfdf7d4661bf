set_option maxRecDepth 100000
theorem e_k53_60 : e_okD (e_m 53).1.cls (e_m 53).1.name (e_m 53).2.1 (((e_m 53).2.2.2.2.drop 60).take 60) [[], [], [1519], [], [], [], [], [], [], [], [], [], [], [1448], [], [1452], [], [], [], [1519], [], [], [], [], [1452], [], [], [], [1452], [], [], [], [], [], [1519], [], [], [1518], [], [1441], [], [], [], [1519], [], [1519], [], [], [], [], []] = true := by decide +kernel
theorem e_k53 : e_Ok 53 := by
  intro pc q hm
  have hm : (pc, q) ∈ (e_m 53).2.2.2.2.drop 0 := hm
  rcases e_Ok_c e_k53_0 hm with h | hm
  · exact h
  rcases e_Ok_c e_k53_60 hm with h | hm
  · exact h
  have hl : (e_m 53).2.2.2.2.length ≤ 120 := by decide +kernel
  rw [List.drop_eq_nil_of_le (by omega)] at hm
  cases hm
theorem e_j53 : e_OkM 53 := e_OkM_i (p1 := 1735) (p2 := 137) (by rfl) (by decide +kernel)
theorem e_k54_0 : e_okD (e_m 54).1.cls (e_m 54).1.name (e_m 54).2.1 (((e_m 54).2.2.2.2.drop 0).take 60) [[], [], [1445], [], [], [1447], [], [], [1446], [], []] = true := by decide +kernel
theorem e_k54 : e_Ok 54 := by
  intro pc q hm
  have hm : (pc, q) ∈ (e_m 54).2.2.2.2.drop 0 := hm
  rcases e_Ok_c e_k54_0 hm with h | hm
  · exact h
  have hl : (e_m 54).2.2.2.2.length ≤ 60 := by decide +kernel
  rw [List.drop_eq_nil_of_le (by omega)] at hm
  cases hm
theorem e_j54 : e_OkM 54 := e_OkM_i (p1 := 1778) (p2 := 137) (by rfl) (by decide +kernel)
theorem e_k55_0 : e_okD (e_m 55).1.cls (e_m 55).1.name (e_m 55).2.1 (((e_m 55).2.2.2.2.drop 0).take 60) [[], [1732, 1734, 65], [], [], [], [], [], [1518], [1775, 1777, 75], [], [], [], [], [], [1456], [], [], [], [], [], [], [], [], [], [], [1456], [], [], [], [], [], [1462], [], [], [], [], [1464], [], [], [], [], [], [], [], [], [], [], [], [], [], [], [], [], [1775, 1777, 75], [], [], [], [], [], []] = true := by decide +kernel
theorem e_k55_60 : e_okD (e_m 55).1.cls (e_m 55).1.name (e_m 55).2.1 (((e_m 55).2.2.2.2.drop 60).take 60) [[], [], [], [1456], [], [], [], [], [], [], [], [], [1462], [], [], [], [], [1466], [], [], [], [], [], [], [], [], [], [], [], [], [], [], [], [], [], [1775, 1777, 75], [], [], [], [], [], [], []] = true := by decide +kernel
theorem e_k55 : e_Ok 55 := by
  intro pc q hm
  have hm : (pc, q) ∈ (e_m 55).2.2.2.2.drop 0 := hm
  rcases e_Ok_c e_k55_0 hm with h | hm
  · exact h
  rcases e_Ok_c e_k55_60 hm with h | hm
  · exact h
  have hl : (e_m 55).2.2.2.2.length ≤ 120 := by decide +kernel
  rw [List.drop_eq_nil_of_le (by omega)] at hm
  cases hm
theorem e_j55 : e_OkM 55 := e_OkM_i (p1 := 1731) (p2 := 137) (by rfl) (by decide +kernel)
theorem e_k56_0 : e_okD (e_m 56).1.cls (e_m 56).1.name (e_m 56).2.1 (((e_m 56).2.2.2.2.drop 0).take 60) [[], [], [1438], [1441], [], [], [], [], [1438], [], [], [1440], [], [], [1439], [], [], [], [], [], [], [], [1438], [], [1728, 1730, 64], [], [], [], [], [], [1445], [], [], [1446], [], [], [1447], [], [], [], [], [1441], [], [], [1442], [], [], [1440], [], [], [], [], [], [], [], [1441], [1443], [], [], [1444]] = true := by decide +kernel
theorem e_k56_60 : e_okD (e_m 56).1.cls (e_m 56).1.name (e_m 56).2.1 (((e_m 56).2.2.2.2.drop 60).take 60) [[], [], [1478], [], [], [1437], [], [1456], [], [], [1444], [], [], [], [], [], [1857, 1859, 94], []] = true := by decide +kernel
theorem e_k56 : e_Ok 56 := by
  intro pc q hm
  have hm : (pc, q) ∈ (e_m 56).2.2.2.2.drop 0 := hm
  rcases e_Ok_c e_k56_0 hm with h | hm
  · exact h
  rcases e_Ok_c e_k56_60 hm with h | hm
  · exact h
  have hl : (e_m 56).2.2.2.2.length ≤ 120 := by decide +kernel
  rw [List.drop_eq_nil_of_le (by omega)] at hm
  cases hm
theorem e_j56 : e_OkM 56 := e_OkM_i (p1 := 1727) (p2 := 137) (by rfl) (by decide +kernel)
theorem e_k57_0 : e_okD (e_m 57).1.cls (e_m 57).1.name (e_m 57).2.1 (((e_m 57).2.2.2.2.drop 0).take 60) [[], [], [1437], [], [], [], [1445], [], [], [], [], [], [1446], [], [], [], [], [], [1447], [], [], []] = true := by decide +kernel
theorem e_k57 : e_Ok 57 := by
  intro pc q hm
  have hm : (pc, q) ∈ (e_m 57).2.2.2.2.drop 0 := hm
  rcases e_Ok_c e_k57_0 hm with h | hm
  · exact h
  have hl : (e_m 57).2.2.2.2.length ≤ 60 := by decide +kernel
  rw [List.drop_eq_nil_of_le (by omega)] at hm
  cases hm
theorem e_j57 : e_OkM 57 := e_OkM_i (p1 := 1864) (p2 := 137) (by rfl) (by decide +kernel)
theorem e_k58_0 : e_okD (e_m 58).1.cls (e_m 58).1.name (e_m 58).2.1 (((e_m 58).2.2.2.2.drop 0).take 60) [[], [], [1437], [], [1444], [], [], [], [], [1456], [], [], [1740, 1741], [], [], [], [], [1462], [], [], [], [], [1740, 1741], [], [], [1466], [], [], [], [], [], [], [], [], [], [1464], [], [], [], [], [], [], [], [], [], [], [], [], [], [], [], [], [], [], [1460], [], [], [], [], [1740, 1741]] = true := by decide +kernel
theorem e_k58_60 : e_okD (e_m 58).1.cls (e_m 58).1.name (e_m 58).2.1 (((e_m 58).2.2.2.2.drop 60).take 60) [[], [], [1467], [], [], [], [], [], [], [], [], [], [], [], [1466], [], [], [], [1740, 1741], [], [], [1467], [], [], [], [], [], [], [], [], [], [], []] = true := by decide +kernel
theorem e_k58 : e_Ok 58 := by
  intro pc q hm
  have hm : (pc, q) ∈ (e_m 58).2.2.2.2.drop 0 := hm
  rcases e_Ok_c e_k58_0 hm with h | hm
  · exact h
  rcases e_Ok_c e_k58_60 hm with h | hm
  · exact h
  have hl : (e_m 58).2.2.2.2.length ≤ 120 := by decide +kernel
  rw [List.drop_eq_nil_of_le (by omega)] at hm
  cases hm
theorem e_j58 : e_OkM 58 := e_OkM_i (p1 := 1868) (p2 := 137) (by rfl) (by decide +kernel)
theorem e_k59_0 : e_okD (e_m 59).1.cls (e_m 59).1.name (e_m 59).2.1 (((e_m 59).2.2.2.2.drop 0).take 60) [[], [], [1437], [], [], [], [1740, 1741], [], [], [], [], [1740, 1741], [], [], [], [], [1740, 1741], [], [], [], [], [1740, 1741], [], [], [], [], [], [1471], [], [], [1472], [], [], [1473], [], [], [1474], [], []] = true := by decide +kernel
theorem e_k59 : e_Ok 59 := by
  intro pc q hm
  have hm : (pc, q) ∈ (e_m 59).2.2.2.2.drop 0 := hm
  rcases e_Ok_c e_k59_0 hm with h | hm
  · exact h
  have hl : (e_m 59).2.2.2.2.length ≤ 60 := by decide +kernel
  rw [List.drop_eq_nil_of_le (by omega)] at hm
  cases hm
theorem e_j59 : e_OkM 59 := e_OkM_i (p1 := 1872) (p2 := 137) (by rfl) (by decide +kernel)
theorem e_k60_0 : e_okD (e_m 60).1.cls (e_m 60).1.name (e_m 60).2.1 (((e_m 60).2.2.2.2.drop 0).take 60) [[], [], [1437], [], [], [], [1740, 1741], [], [], [], [], [], [1475], [], []] = true := by decide +kernel
theorem e_k60 : e_Ok 60 := by
  intro pc q hm
  have hm : (pc, q) ∈ (e_m 60).2.2.2.2.drop 0 := hm
  rcases e_Ok_c e_k60_0 hm with h | hm
  · exact h
  have hl : (e_m 60).2.2.2.2.length ≤ 60 := by decide +kernel
  rw [List.drop_eq_nil_of_le (by omega)] at hm
  cases hm
theorem e_j60 : e_OkM 60 := e_OkM_i (p1 := 1876) (p2 := 137) (by rfl) (by decide +kernel)
theorem e_k61_0 : e_okD (e_m 61).1.cls (e_m 61).1.name (e_m 61).2.1 (((e_m 61).2.2.2.2.drop 0).take 60) [[], [], [1437], [], [1476], [], [], [], [], [], [1477], [], [1476], [], [], [], [], [1476], [], [], [1476], [], []] = true := by decide +kernel
theorem e_k61 : e_Ok 61 := by
  intro pc q hm
  have hm : (pc, q) ∈ (e_m 61).2.2.2.2.drop 0 := hm
  rcases e_Ok_c e_k61_0 hm with h | hm
  · exact h
  have hl : (e_m 61).2.2.2.2.length ≤ 60 := by decide +kernel
  rw [List.drop_eq_nil_of_le (by omega)] at hm
  cases hm
theorem e_j61 : e_OkM 61 := e_OkM_i (p1 := 1880) (p2 := 137) (by rfl) (by decide +kernel)
theorem e_k62_0 : e_okD (e_m 62).1.cls (e_m 62).1.name (e_m 62).2.1 (((e_m 62).2.2.2.2.drop 0).take 60) [[], [], [1437], [], [1444], [], [], [], [], [], [], [], [1457], [], [], [], [], [1458], [], [], [], [], [], [], [], [], [], [], [1478], [], [], [1479], [], [], [1480], [], [], [1481], [], [], [1484], [], [], [1489], [], [], [1491], [], [], [1495], [], [], [1497], [], [], [1508], [], [], [1509], []] = true := by decide +kernel
theorem e_k62_60 : e_okD (e_m 62).1.cls (e_m 62).1.name (e_m 62).2.1 (((e_m 62).2.2.2.2.drop 60).take 60) [[], [1510], [], [], [1516], [], [], [1475], [1507], [], [], [], [], [], [], [1486], [], [], [], [], [1487], [], [], [], [], [], [], [], [], [], [], [], [1488], [], [], [], [], [], [], [], [], [], [], [], [], [1457], [], [], [], [], [1505], [], [], [], [], [], [], [], [], []] = true := by decide +kernel
