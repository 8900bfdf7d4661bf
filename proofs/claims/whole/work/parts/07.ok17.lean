set_option maxRecDepth 100000
theorem e_k191_0 : e_okD (e_m 191).1.cls (e_m 191).1.name (e_m 191).2.1 (((e_m 191).2.2.2.2.drop 0).take 60) [[], [], [], [], [], [], [1714], [], [], [], [], [], [], [], [], [], [2088, 2090, 98], [], [], [], [], [], [], [], [], [], [], [], [], [], [], [], [], [], [], [], [1714], [1714], [], [], [], [], [1663], [], [], [], [], [], [], [], [], [], [], [], [], [], [], [], [], []] = true := by decide +kernel
theorem e_k191_60 : e_okD (e_m 191).1.cls (e_m 191).1.name (e_m 191).2.1 (((e_m 191).2.2.2.2.drop 60).take 60) [[], [1978, 1980, 78], [], [], [], [1714], [], [], [], [], [], [1978, 1980, 78], [2040, 2042, 92], [1715], [], [1653], [], [1715], [], [], [1665], [], [], [1685], [], [1653], [], [1715], [], [], [], [], [], [], [], []] = true := by decide +kernel
theorem e_k191 : e_Ok 191 := by
  intro pc q hm
  have hm : (pc, q) ∈ (e_m 191).2.2.2.2.drop 0 := hm
  rcases e_Ok_c e_k191_0 hm with h | hm
  · exact h
  rcases e_Ok_c e_k191_60 hm with h | hm
  · exact h
  have hl : (e_m 191).2.2.2.2.length ≤ 120 := by decide +kernel
  rw [List.drop_eq_nil_of_le (by omega)] at hm
  cases hm
theorem e_j191 : e_OkM 191 := e_OkM_i (p1 := 2087) (p2 := 137) (by rfl) (by decide +kernel)
theorem e_k192_0 : e_okD (e_m 192).1.cls (e_m 192).1.name (e_m 192).2.1 (((e_m 192).2.2.2.2.drop 0).take 60) [[], [1692], [], [], [], [], [], [], [1693], [], [], [], [], [1683], [], [], [], [], [], [1683], [], [], [], [1684], [], [], [], [], [], [1687], [], [], [], [], [], [], [], [1694], [], [], [], [], [1687], [], [], [], [], [], [], [], [1690], [], [], [], [], [], [], [], [], []] = true := by decide +kernel
theorem e_k192 : e_Ok 192 := by
  intro pc q hm
  have hm : (pc, q) ∈ (e_m 192).2.2.2.2.drop 0 := hm
  rcases e_Ok_c e_k192_0 hm with h | hm
  · exact h
  have hl : (e_m 192).2.2.2.2.length ≤ 60 := by decide +kernel
  rw [List.drop_eq_nil_of_le (by omega)] at hm
  cases hm
theorem e_j192 : e_OkM 192 := e_OkM_i (p1 := 2171) (p2 := 137) (by rfl) (by decide +kernel)
theorem e_k193_0 : e_okD (e_m 193).1.cls (e_m 193).1.name (e_m 193).2.1 (((e_m 193).2.2.2.2.drop 0).take 60) [[], [], [], [1692], [], [], [], [], [], [1692], [], [], [], [], [], [], [1692], [], [], [], [], [1689], [], [], [], [], [], [], [], [1689], [], [], [], [2092, 2094, 99], [], [1678], [], [], [], [1693], [], [], [], [], [], [1678], [], [], [], [], [1677], [], [], [], []] = true := by decide +kernel
theorem e_k193 : e_Ok 193 := by
  intro pc q hm
  have hm : (pc, q) ∈ (e_m 193).2.2.2.2.drop 0 := hm
  rcases e_Ok_c e_k193_0 hm with h | hm
  · exact h
  have hl : (e_m 193).2.2.2.2.length ≤ 60 := by decide +kernel
  rw [List.drop_eq_nil_of_le (by omega)] at hm
  cases hm
theorem e_j193 : e_OkM 193 := e_OkM_i (p1 := 2175) (p2 := 137) (by rfl) (by decide +kernel)
theorem e_k194_0 : e_okD (e_m 194).1.cls (e_m 194).1.name (e_m 194).2.1 (((e_m 194).2.2.2.2.drop 0).take 60) [[], [1688], [], [], [], [], [1690], [], [], [], [], [], [2168, 2170, 115], [], [], [], [], [], [1687], [], [], [], [], [], [], [], [], [], [1687], [], [], [], [], [], [], [], [], [], [], [], [2172, 2174, 116], [], [], [], [1692], [], [], [], [], [1679], [], [], [], [1689], [], [], [], [], [], []] = true := by decide +kernel
theorem e_k194_60 : e_okD (e_m 194).1.cls (e_m 194).1.name (e_m 194).2.1 (((e_m 194).2.2.2.2.drop 60).take 60) [[], [], [], [], [], [], [], [], [1691], [], [], [], [], [1690], [], [], [], [], [], [], [1695], [], [], [], [], [1648], [], [], [], [], [], [], [], [], [], [2076, 2078, 95], [], [], [], [], [], [1693], [], [], [], [2096, 2098, 100], [], [], [], [], [1648], [], [], [], [], [1696], [], [], [], []] = true := by decide +kernel
theorem e_k194_120 : e_okD (e_m 194).1.cls (e_m 194).1.name (e_m 194).2.1 (((e_m 194).2.2.2.2.drop 120).take 60) [[], [], [], [], [1697], [], [], [], [], [1695], [], [], [], [], [], [], [], [], [], []] = true := by decide +kernel
theorem e_k194 : e_Ok 194 := by
  intro pc q hm
  have hm : (pc, q) ∈ (e_m 194).2.2.2.2.drop 0 := hm
  rcases e_Ok_c e_k194_0 hm with h | hm
  · exact h
  rcases e_Ok_c e_k194_60 hm with h | hm
  · exact h
  rcases e_Ok_c e_k194_120 hm with h | hm
  · exact h
  have hl : (e_m 194).2.2.2.2.length ≤ 180 := by decide +kernel
  rw [List.drop_eq_nil_of_le (by omega)] at hm
  cases hm
theorem e_j194 : e_OkM 194 := e_OkM_i (p1 := 2167) (p2 := 137) (by rfl) (by decide +kernel)
theorem e_k195_0 : e_okD (e_m 195).1.cls (e_m 195).1.name (e_m 195).2.1 (((e_m 195).2.2.2.2.drop 0).take 60) [[], [], [], [1701], [], [], [], [], [], [], [], [], [], [], [], [], [], [1702], [], [], [], [], [], [], [], [], [], [], [], [], [], []] = true := by decide +kernel
theorem e_k195 : e_Ok 195 := by
  intro pc q hm
  have hm : (pc, q) ∈ (e_m 195).2.2.2.2.drop 0 := hm
  rcases e_Ok_c e_k195_0 hm with h | hm
  · exact h
  have hl : (e_m 195).2.2.2.2.length ≤ 60 := by decide +kernel
  rw [List.drop_eq_nil_of_le (by omega)] at hm
  cases hm
theorem e_j195 : e_OkM 195 := e_OkM_i (p1 := 2120) (p2 := 137) (by rfl) (by decide +kernel)
theorem e_k196_0 : e_okD (e_m 196).1.cls (e_m 196).1.name (e_m 196).2.1 (((e_m 196).2.2.2.2.drop 0).take 60) [[], [], [], [], [], [2117, 2119, 104], [], [], [1706], [], [], [], [], [], [1706], [], [], [], [], [1717], [], [1716], [], [], [], [], [1716], [], [], [1716], []] = true := by decide +kernel
theorem e_k196 : e_Ok 196 := by
  intro pc q hm
  have hm : (pc, q) ∈ (e_m 196).2.2.2.2.drop 0 := hm
  rcases e_Ok_c e_k196_0 hm with h | hm
  · exact h
  have hl : (e_m 196).2.2.2.2.length ≤ 60 := by decide +kernel
  rw [List.drop_eq_nil_of_le (by omega)] at hm
  cases hm
theorem e_j196 : e_OkM 196 := e_OkM_i (p1 := 2140) (p2 := 137) (by rfl) (by decide +kernel)
theorem e_k197_0 : e_okD (e_m 197).1.cls (e_m 197).1.name (e_m 197).2.1 (((e_m 197).2.2.2.2.drop 0).take 60) [[], [], [], [1703], [], [], [], [], [], [], [1705], [], [], [], [], [1642], [], [], [1703], [], [], [], [], [], [], [], [], [], [], [1708], [], [1704], [], [], [], [], [], [2137, 2139, 108], [], [], []] = true := by decide +kernel
theorem e_k197 : e_Ok 197 := by
  intro pc q hm
  have hm : (pc, q) ∈ (e_m 197).2.2.2.2.drop 0 := hm
  rcases e_Ok_c e_k197_0 hm with h | hm
  · exact h
  have hl : (e_m 197).2.2.2.2.length ≤ 60 := by decide +kernel
  rw [List.drop_eq_nil_of_le (by omega)] at hm
  cases hm
theorem e_j197 : e_OkM 197 := e_OkM_i (p1 := 2144) (p2 := 137) (by rfl) (by decide +kernel)
theorem e_k198_0 : e_okD (e_m 198).1.cls (e_m 198).1.name (e_m 198).2.1 (((e_m 198).2.2.2.2.drop 0).take 60) [[], [], [], [], [], [], [], [], [], []] = true := by decide +kernel
theorem e_k198 : e_Ok 198 := by
  intro pc q hm
  have hm : (pc, q) ∈ (e_m 198).2.2.2.2.drop 0 := hm
  rcases e_Ok_c e_k198_0 hm with h | hm
  · exact h
  have hl : (e_m 198).2.2.2.2.length ≤ 60 := by decide +kernel
  rw [List.drop_eq_nil_of_le (by omega)] at hm
  cases hm
theorem e_j198 : e_OkM 198 := e_OkM_i (p1 := 2136) (p2 := 137) (by rfl) (by decide +kernel)
theorem e_k199_0 : e_okD (e_m 199).1.cls (e_m 199).1.name (e_m 199).2.1 (((e_m 199).2.2.2.2.drop 0).take 60) [[], [], [1689], [], [], [], [], [], [1688], [], [], [], [], [1690], [], [], [], [], [1691], [], [], [], []] = true := by decide +kernel
theorem e_k199 : e_Ok 199 := by
  intro pc q hm
  have hm : (pc, q) ∈ (e_m 199).2.2.2.2.drop 0 := hm
  rcases e_Ok_c e_k199_0 hm with h | hm
  · exact h
  have hl : (e_m 199).2.2.2.2.length ≤ 60 := by decide +kernel
  rw [List.drop_eq_nil_of_le (by omega)] at hm
  cases hm
theorem e_j199 : e_OkM 199 := e_OkM_i (p1 := 2133) (p2 := 137) (by rfl) (by decide +kernel)
theorem e_k200_0 : e_okD (e_m 200).1.cls (e_m 200).1.name (e_m 200).2.1 (((e_m 200).2.2.2.2.drop 0).take 60) [[], [1699], [], [], [], [], [], [1701], [], [], [1706], [], [], [], [], [], [], [], [1716], [], [], [], [], [1688], [], [], [], [], [2130, 2132, 107], [], [], [], [], [], [], [1651], [], [1689], [], [], [], [], [], [1658], [], [], [], [], [2134, 2135], [], [], [], [1696], [], [], [], [], [], [], [2137, 2139, 108]] = true := by decide +kernel
