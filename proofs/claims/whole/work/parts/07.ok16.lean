set_option maxRecDepth 100000
theorem e_k185_0 : e_okD (e_m 185).1.cls (e_m 185).1.name (e_m 185).2.1 (((e_m 185).2.2.2.2.drop 0).take 60) [[], [], [1628], [], [1635], [], [], [], [], [], [], [], [1648], [], [], [], [], [1649], [], [], [], [], [], [], [], [], [], [], [1669], [], [], [1670], [], [], [1671], [], [], [1672], [], [], [1675], [], [], [1680], [], [], [1682], [], [], [1686], [], [], [1688], [], [], [1699], [], [], [1700], []] = true := by decide +kernel
theorem e_k185_60 : e_okD (e_m 185).1.cls (e_m 185).1.name (e_m 185).2.1 (((e_m 185).2.2.2.2.drop 60).take 60) [[], [1701], [], [], [1707], [], [], [1666], [1698], [], [], [], [], [], [], [1677], [], [], [], [], [1678], [], [], [], [], [], [], [], [], [], [], [], [1679], [], [], [], [], [], [], [], [2076, 2078, 95], [], [], [], [], [1648], [], [], [], [], [1696], [], [], [], [], [], [], [], [], []] = true := by decide +kernel
theorem e_k185_120 : e_okD (e_m 185).1.cls (e_m 185).1.name (e_m 185).2.1 (((e_m 185).2.2.2.2.drop 120).take 60) [[], [], [], [], [], [], [], [], [], [], [], []] = true := by decide +kernel
theorem e_k185 : e_Ok 185 := by
  intro pc q hm
  have hm : (pc, q) ∈ (e_m 185).2.2.2.2.drop 0 := hm
  rcases e_Ok_c e_k185_0 hm with h | hm
  · exact h
  rcases e_Ok_c e_k185_60 hm with h | hm
  · exact h
  rcases e_Ok_c e_k185_120 hm with h | hm
  · exact h
  have hl : (e_m 185).2.2.2.2.length ≤ 180 := by decide +kernel
  rw [List.drop_eq_nil_of_le (by omega)] at hm
  cases hm
theorem e_j185 : e_OkM 185 := e_OkM_i (p1 := 2075) (p2 := 137) (by rfl) (by decide +kernel)
theorem e_k186_0 : e_okD (e_m 186).1.cls (e_m 186).1.name (e_m 186).2.1 (((e_m 186).2.2.2.2.drop 0).take 60) [[], [1688], [], [], [], [1688], [], [], [1688], [], [1689], [], [], [], [], [1690], [], [], [], [], [1691], [], [], [], [], [1692], [], [], [], [], [1693], [], [], [], [], [1694], [], [], [], [], [1695], [], [], [], [], [], [], [], [], [], [1696], [], [], [], [], [], [], [], [], []] = true := by decide +kernel
theorem e_k186_60 : e_okD (e_m 186).1.cls (e_m 186).1.name (e_m 186).2.1 (((e_m 186).2.2.2.2.drop 60).take 60) [[]] = true := by decide +kernel
theorem e_k186 : e_Ok 186 := by
  intro pc q hm
  have hm : (pc, q) ∈ (e_m 186).2.2.2.2.drop 0 := hm
  rcases e_Ok_c e_k186_0 hm with h | hm
  · exact h
  rcases e_Ok_c e_k186_60 hm with h | hm
  · exact h
  have hl : (e_m 186).2.2.2.2.length ≤ 120 := by decide +kernel
  rw [List.drop_eq_nil_of_le (by omega)] at hm
  cases hm
theorem e_j186 : e_OkM 186 := e_OkM_i (p1 := 2099) (p2 := 137) (by rfl) (by decide +kernel)
theorem e_k187_0 : e_okD (e_m 187).1.cls (e_m 187).1.name (e_m 187).2.1 (((e_m 187).2.2.2.2.drop 0).take 60) [[], [1680], [], [], [], [1681], [], [], [1680], [], [], [], [], [1681], [], [], [1680], [], [], [], [], [1672], [], [], [1681], [], [], [1680], [], [], [], [], [], [], [1681], [], [], [1680], [], [], [], [], [], [], [1681], [], [], [1680], [], [], [], [], [], [], [], [1680], [], [1680], [], []] = true := by decide +kernel
theorem e_k187_60 : e_okD (e_m 187).1.cls (e_m 187).1.name (e_m 187).2.1 (((e_m 187).2.2.2.2.drop 60).take 60) [[], [], [], [], [1680], []] = true := by decide +kernel
theorem e_k187 : e_Ok 187 := by
  intro pc q hm
  have hm : (pc, q) ∈ (e_m 187).2.2.2.2.drop 0 := hm
  rcases e_Ok_c e_k187_0 hm with h | hm
  · exact h
  rcases e_Ok_c e_k187_60 hm with h | hm
  · exact h
  have hl : (e_m 187).2.2.2.2.length ≤ 120 := by decide +kernel
  rw [List.drop_eq_nil_of_le (by omega)] at hm
  cases hm
theorem e_j187 : e_OkM 187 := e_OkM_i (p1 := 2095) (p2 := 137) (by rfl) (by decide +kernel)
theorem e_k188_0 : e_okD (e_m 188).1.cls (e_m 188).1.name (e_m 188).2.1 (((e_m 188).2.2.2.2.drop 0).take 60) [[], [1677], [], [], [], [], [], [], [], [1677], [], [], [], [1662], [], [], [1678], [], [], [], [], [], [1674], [], [], [], [1678], [], [], [1682], [], [], [1683], [], [1682], [], [1686], [], [], [], [1685], [], [], [2080, 2082, 96], [], [1684], [], [1682], [], [1686], [], [1683], [], [1682], [], [], [], [], [], []] = true := by decide +kernel
theorem e_k188_60 : e_okD (e_m 188).1.cls (e_m 188).1.name (e_m 188).2.1 (((e_m 188).2.2.2.2.drop 60).take 60) [[], [1684], [], [1682], [], [], [1653], [], [], [], [1685], [], [2092, 2094, 99], [], [], [1682], [], [], [1682], [], [], [1674], [], [], [1674], [], [], [], [1678], [], [], [], [], [], [], [], [], [1678], [], [], [], [2096, 2098, 100], []] = true := by decide +kernel
theorem e_k188 : e_Ok 188 := by
  intro pc q hm
  have hm : (pc, q) ∈ (e_m 188).2.2.2.2.drop 0 := hm
  rcases e_Ok_c e_k188_0 hm with h | hm
  · exact h
  rcases e_Ok_c e_k188_60 hm with h | hm
  · exact h
  have hl : (e_m 188).2.2.2.2.length ≤ 120 := by decide +kernel
  rw [List.drop_eq_nil_of_le (by omega)] at hm
  cases hm
theorem e_j188 : e_OkM 188 := e_OkM_i (p1 := 2079) (p2 := 137) (by rfl) (by decide +kernel)
theorem e_k189_0 : e_okD (e_m 189).1.cls (e_m 189).1.name (e_m 189).2.1 (((e_m 189).2.2.2.2.drop 0).take 60) [[], [1679], [], [], [], [], [], [], [], [], [], [], []] = true := by decide +kernel
theorem e_k189 : e_Ok 189 := by
  intro pc q hm
  have hm : (pc, q) ∈ (e_m 189).2.2.2.2.drop 0 := hm
  rcases e_Ok_c e_k189_0 hm with h | hm
  · exact h
  have hl : (e_m 189).2.2.2.2.length ≤ 60 := by decide +kernel
  rw [List.drop_eq_nil_of_le (by omega)] at hm
  cases hm
theorem e_j189 : e_OkM 189 := e_OkM_i (p1 := 2091) (p2 := 137) (by rfl) (by decide +kernel)
theorem e_k190_0 : e_okD (e_m 190).1.cls (e_m 190).1.name (e_m 190).2.1 (((e_m 190).2.2.2.2.drop 0).take 60) [[], [], [], [1711], [], [], [], [], [1712], [], [], [], [], [1713], [], [], [], [], [], [], [1712], [], [], [], [], [1711], [], [], [], [], [], [1653], [], [], [], [], [], [1664], [], [], [], [], [1712], [], [], [], [], [], [], [], [], [], [1978, 1980, 78], [], [], [1655], [], [], [], []] = true := by decide +kernel
theorem e_k190_60 : e_okD (e_m 190).1.cls (e_m 190).1.name (e_m 190).2.1 (((e_m 190).2.2.2.2.drop 60).take 60) [[], [], [], [], [], [], [], [], [], [], [], [], [], [2084, 2086, 97], [], [], [], [], [], [], [], [], [], [], [1686], [], [], [], [1687], [], [], [], [], [1687], [], [], [], [], [], [], [1687], [], [], [], [], [], [], [1687], [], [], [], [], [], [], [], [1714], [], [], [], []] = true := by decide +kernel
theorem e_k190_120 : e_okD (e_m 190).1.cls (e_m 190).1.name (e_m 190).2.1 (((e_m 190).2.2.2.2.drop 120).take 60) [[1687], [], [], [], [], [1715], [], [], [1687], [], [], [], [], [1713], [], [], [], [], [], [1685], [], [1653], [], [1715], [], [], [1685], [], [], [1711], [], [], [1715], [], [], [1712], [], [], [], [], [1713], [], [], [1686], [], [], [], [1686], [], [], [1686], [], []] = true := by decide +kernel
theorem e_k190 : e_Ok 190 := by
  intro pc q hm
  have hm : (pc, q) ∈ (e_m 190).2.2.2.2.drop 0 := hm
  rcases e_Ok_c e_k190_0 hm with h | hm
  · exact h
  rcases e_Ok_c e_k190_60 hm with h | hm
  · exact h
  rcases e_Ok_c e_k190_120 hm with h | hm
  · exact h
  have hl : (e_m 190).2.2.2.2.length ≤ 180 := by decide +kernel
  rw [List.drop_eq_nil_of_le (by omega)] at hm
  cases hm
theorem e_j190 : e_OkM 190 := e_OkM_i (p1 := 2083) (p2 := 137) (by rfl) (by decide +kernel)
