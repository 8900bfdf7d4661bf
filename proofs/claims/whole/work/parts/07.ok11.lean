set_option maxRecDepth 100000
theorem e_k141_0 : e_okD (e_m 141).1.cls (e_m 141).1.name (e_m 141).2.1 (((e_m 141).2.2.2.2.drop 0).take 60) [[], [], [], [628], [414], [], [], [628], [416], [], [], [628], [406], [], [], [628], [396], [250], [], [], [628], [402], [380], [], [], [628], [398], [299], [], [], [628], [398], [301], [], [], [628], [400], [339], [], [], [628], [418], [], [], [628], [398], [296], [], [], []] = true := by decide +kernel
theorem e_k141 : e_Ok 141 := by
  intro pc q hm
  have hm : (pc, q) ∈ (e_m 141).2.2.2.2.drop 0 := hm
  rcases e_Ok_c e_k141_0 hm with h | hm
  · exact h
  have hl : (e_m 141).2.2.2.2.length ≤ 60 := by decide +kernel
  rw [List.drop_eq_nil_of_le (by omega)] at hm
  cases hm
theorem e_j141 : e_OkM 141 := e_OkM_i (p1 := 1150) (p2 := 125) (by rfl) (by decide +kernel)
theorem e_k142_0 : e_okD (e_m 142).1.cls (e_m 142).1.name (e_m 142).2.1 (((e_m 142).2.2.2.2.drop 0).take 60) [[], [1626, 162, 163], [], [], [234], [1630], [], [], [234], [1631], [], [], [234], [1633], [], [], [234], [1640], [], [], [234], [1641], [], [], [234], [1642], [], [], [234], [1644], [], [], [234], [1645], [], [], [234], [1646], [], [], [234], [1648], [], [], [234], [1649], [], [], [234], [1650], [], [], [234], [1651], [], [], [234], [1652], [], []] = true := by decide +kernel
theorem e_k142_60 : e_okD (e_m 142).1.cls (e_m 142).1.name (e_m 142).2.1 (((e_m 142).2.2.2.2.drop 60).take 60) [[234], [1653], [], [], [234], [1654], [], [], [1905], [1655], [], [], [234], [1656], [], [], [234], [1657], [], [], [234], [1658], [], [], [234], [1659], [], [], [1662], [], [], [1663], [], [], [1664], [], [], [1665], [], [], [1666], [], [], [234], [1668], [], [], [234], [1676], [], [], [234], [1677], [], [], [234], [1678], [], [], [234]] = true := by decide +kernel
theorem e_k142_120 : e_okD (e_m 142).1.cls (e_m 142).1.name (e_m 142).2.1 (((e_m 142).2.2.2.2.drop 120).take 60) [[1679], [], [], [234], [1681], [], [], [234], [1683], [], [], [234], [1684], [], [1627], [234], [1687], [], [], [234], [1689], [], [], [234], [1690], [], [], [234], [1691], [], [], [234], [1692], [], [], [234], [1693], [], [], [234], [1694], [], [], [234], [1695], [], [], [234], [1696], [], [], [234], [1697], [], [], [234], [1702], [], [], [234]] = true := by decide +kernel
theorem e_k142_180 : e_okD (e_m 142).1.cls (e_m 142).1.name (e_m 142).2.1 (((e_m 142).2.2.2.2.drop 180).take 60) [[1703], [], [], [234], [1704], [], [], [234], [1705], [], [], [1905], [1706], [], [], [234], [1708], [], [], [234], [1711], [], [], [234], [1712], [], [], [234], [1713], [], [], [234], [1717], []] = true := by decide +kernel
theorem e_k142 : e_Ok 142 := by
  intro pc q hm
  have hm : (pc, q) ∈ (e_m 142).2.2.2.2.drop 0 := hm
  rcases e_Ok_c e_k142_0 hm with h | hm
  · exact h
  rcases e_Ok_c e_k142_60 hm with h | hm
  · exact h
  rcases e_Ok_c e_k142_120 hm with h | hm
  · exact h
  rcases e_Ok_c e_k142_180 hm with h | hm
  · exact h
  have hl : (e_m 142).2.2.2.2.length ≤ 240 := by decide +kernel
  rw [List.drop_eq_nil_of_le (by omega)] at hm
  cases hm
theorem e_j142 : e_OkM 142 := e_OkM_i (p1 := 1625) (p2 := 137) (by rfl) (by decide +kernel)
theorem e_k143_0 : e_okD (e_m 143).1.cls (e_m 143).1.name (e_m 143).2.1 (((e_m 143).2.2.2.2.drop 0).take 60) [[], [1628], []] = true := by decide +kernel
theorem e_k143 : e_Ok 143 := by
  intro pc q hm
  have hm : (pc, q) ∈ (e_m 143).2.2.2.2.drop 0 := hm
  rcases e_Ok_c e_k143_0 hm with h | hm
  · exact h
  have hl : (e_m 143).2.2.2.2.length ≤ 60 := by decide +kernel
  rw [List.drop_eq_nil_of_le (by omega)] at hm
  cases hm
theorem e_j143 : e_OkM 143 := e_OkM_i (p1 := 1909) (p2 := 137) (by rfl) (by decide +kernel)
theorem e_k144_0 : e_okD (e_m 144).1.cls (e_m 144).1.name (e_m 144).2.1 (((e_m 144).2.2.2.2.drop 0).take 60) [[], [], [1628], [], []] = true := by decide +kernel
theorem e_k144 : e_Ok 144 := by
  intro pc q hm
  have hm : (pc, q) ∈ (e_m 144).2.2.2.2.drop 0 := hm
  rcases e_Ok_c e_k144_0 hm with h | hm
  · exact h
  have hl : (e_m 144).2.2.2.2.length ≤ 60 := by decide +kernel
  rw [List.drop_eq_nil_of_le (by omega)] at hm
  cases hm
theorem e_j144 : e_OkM 144 := e_OkM_i (p1 := 2051) (p2 := 137) (by rfl) (by decide +kernel)
theorem e_k145_0 : e_okD (e_m 145).1.cls (e_m 145).1.name (e_m 145).2.1 (((e_m 145).2.2.2.2.drop 0).take 60) [[], [], [], [], [], [], [], [], [], []] = true := by decide +kernel
theorem e_k145 : e_Ok 145 := by
  intro pc q hm
  have hm : (pc, q) ∈ (e_m 145).2.2.2.2.drop 0 := hm
  rcases e_Ok_c e_k145_0 hm with h | hm
  · exact h
  have hl : (e_m 145).2.2.2.2.length ≤ 60 := by decide +kernel
  rw [List.drop_eq_nil_of_le (by omega)] at hm
  cases hm
theorem e_j145 : e_OkM 145 := e_OkM_i (p1 := 1933) (p2 := 137) (by rfl) (by decide +kernel)
theorem e_k146_0 : e_okD (e_m 146).1.cls (e_m 146).1.name (e_m 146).2.1 (((e_m 146).2.2.2.2.drop 0).take 60) [[], [], [1628], [], [], [], [], [], [], [], [1629], [], [], [], [], [], [], [], [], [], [], [], [], [], [1630], [], [1629], [], [], [], [], [], [1914], [], [], [], [], [], [1629], [], [], [1629], [], [], [], []] = true := by decide +kernel
theorem e_k146 : e_Ok 146 := by
  intro pc q hm
  have hm : (pc, q) ∈ (e_m 146).2.2.2.2.drop 0 := hm
  rcases e_Ok_c e_k146_0 hm with h | hm
  · exact h
  have hl : (e_m 146).2.2.2.2.length ≤ 60 := by decide +kernel
  rw [List.drop_eq_nil_of_le (by omega)] at hm
  cases hm
theorem e_j146 : e_OkM 146 := e_OkM_i (p1 := 1913) (p2 := 137) (by rfl) (by decide +kernel)
theorem e_k147_0 : e_okD (e_m 147).1.cls (e_m 147).1.name (e_m 147).2.1 (((e_m 147).2.2.2.2.drop 0).take 60) [[], [1710], [], [], [], [], [1709], [], [1632], [], [], [1631], [], [1709], [], [], [], [1931, 1932], [], [], [], [1710], [], [], [], [], [1709], [], [], [1709], [], [1631], [], [1709], [], [], [], []] = true := by decide +kernel
theorem e_k147 : e_Ok 147 := by
  intro pc q hm
  have hm : (pc, q) ∈ (e_m 147).2.2.2.2.drop 0 := hm
  rcases e_Ok_c e_k147_0 hm with h | hm
  · exact h
  have hl : (e_m 147).2.2.2.2.length ≤ 60 := by decide +kernel
  rw [List.drop_eq_nil_of_le (by omega)] at hm
  cases hm
theorem e_j147 : e_OkM 147 := e_OkM_i (p1 := 1930) (p2 := 137) (by rfl) (by decide +kernel)
theorem e_k148_0 : e_okD (e_m 148).1.cls (e_m 148).1.name (e_m 148).2.1 (((e_m 148).2.2.2.2.drop 0).take 60) [[], [1710], [], [], [], [], [1709], [], [1632], [], [], [1631], [], [1709], [], [], [], [], [], [], [], [], [], [], [], [], [], [], [], [], [1639], [], [], [], [], [], [], [], [], [], [], [], [], [], [], [1710], [], [], [], [], [1709], [], [], [1709], [], []] = true := by decide +kernel
theorem e_k148 : e_Ok 148 := by
  intro pc q hm
  have hm : (pc, q) ∈ (e_m 148).2.2.2.2.drop 0 := hm
  rcases e_Ok_c e_k148_0 hm with h | hm
  · exact h
  have hl : (e_m 148).2.2.2.2.length ≤ 60 := by decide +kernel
  rw [List.drop_eq_nil_of_le (by omega)] at hm
  cases hm
theorem e_j148 : e_OkM 148 := e_OkM_i (p1 := 1941) (p2 := 137) (by rfl) (by decide +kernel)
theorem e_k149_0 : e_okD (e_m 149).1.cls (e_m 149).1.name (e_m 149).2.1 (((e_m 149).2.2.2.2.drop 0).take 60) [[], [], [], [1927, 1929, 66], [], [], [1640], [], [], [], [], [], [], [], [], [], [], [1641], [], [], [], [], [], [], [], [], [], [], [], [], [], [], [], [], [], [1927, 1929, 66], [], [], [1641], [], [], [], [], [], [], [], [], [], [], [], [1642], [], [], [], [], [], [], [1642], [], []] = true := by decide +kernel
theorem e_k149_60 : e_okD (e_m 149).1.cls (e_m 149).1.name (e_m 149).2.1 (((e_m 149).2.2.2.2.drop 60).take 60) [[], [], [], [], [], [], [], [], [], [], [], [], [], [], [], [], [], [1642], [], [], [], [], [], [], [], [1938, 1940, 68], [], [], [], []] = true := by decide +kernel
theorem e_k149 : e_Ok 149 := by
  intro pc q hm
  have hm : (pc, q) ∈ (e_m 149).2.2.2.2.drop 0 := hm
  rcases e_Ok_c e_k149_0 hm with h | hm
  · exact h
  rcases e_Ok_c e_k149_60 hm with h | hm
  · exact h
  have hl : (e_m 149).2.2.2.2.length ≤ 120 := by decide +kernel
  rw [List.drop_eq_nil_of_le (by omega)] at hm
  cases hm
theorem e_j149 : e_OkM 149 := e_OkM_i (p1 := 1937) (p2 := 137) (by rfl) (by decide +kernel)
theorem e_k150_0 : e_okD (e_m 150).1.cls (e_m 150).1.name (e_m 150).2.1 (((e_m 150).2.2.2.2.drop 0).take 60) [[], [1644], [], [], [], [], [1927, 1929, 66], [], [], [], [], [], [1644], [], [], [], [], [1645], [], [], [], [], [], [], [], [1938, 1940, 68], [], [], [], [], [1646], [], [], [], [1938, 1940, 68], [], []] = true := by decide +kernel
theorem e_k150 : e_Ok 150 := by
  intro pc q hm
  have hm : (pc, q) ∈ (e_m 150).2.2.2.2.drop 0 := hm
  rcases e_Ok_c e_k150_0 hm with h | hm
  · exact h
  have hl : (e_m 150).2.2.2.2.length ≤ 60 := by decide +kernel
  rw [List.drop_eq_nil_of_le (by omega)] at hm
  cases hm
theorem e_j150 : e_OkM 150 := e_OkM_i (p1 := 1945) (p2 := 137) (by rfl) (by decide +kernel)
