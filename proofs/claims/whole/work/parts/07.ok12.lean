set_option maxRecDepth 100000
theorem e_k151_0 : e_okD (e_m 151).1.cls (e_m 151).1.name (e_m 151).2.1 (((e_m 151).2.2.2.2.drop 0).take 60) [[], [1648], [], [], [], [], [1927, 1929, 66], [], [], [], [], [], [1648], [], [], [], [], [1649], [], [], [], [], [], [], [], [1938, 1940, 68], [], [], [], [], [1650], [], [], [], [1938, 1940, 68], [], [], [1651], [], [], [], [1648], [], [], [], [1927, 1929, 66], [], [], [1652], [], [], [], [], [1927, 1929, 66], [], [], [1653], [], [], []] = true := by decide +kernel
theorem e_k151_60 : e_okD (e_m 151).1.cls (e_m 151).1.name (e_m 151).2.1 (((e_m 151).2.2.2.2.drop 60).take 60) [[], [1927, 1929, 66], [], [], [], [], [], [1653], [], [], [], [], [1654], [], [], [], [], [], [], [], [], [1927, 1929, 66], [], [], [], []] = true := by decide +kernel
theorem e_k151 : e_Ok 151 := by
  intro pc q hm
  have hm : (pc, q) ∈ (e_m 151).2.2.2.2.drop 0 := hm
  rcases e_Ok_c e_k151_0 hm with h | hm
  · exact h
  rcases e_Ok_c e_k151_60 hm with h | hm
  · exact h
  have hl : (e_m 151).2.2.2.2.length ≤ 120 := by decide +kernel
  rw [List.drop_eq_nil_of_le (by omega)] at hm
  cases hm
theorem e_j151 : e_OkM 151 := e_OkM_i (p1 := 1949) (p2 := 137) (by rfl) (by decide +kernel)
theorem e_k152_0 : e_okD (e_m 152).1.cls (e_m 152).1.name (e_m 152).2.1 (((e_m 152).2.2.2.2.drop 0).take 60) [[], [1640], [], [], [], [], [], [], [], [], [], [1640], [], [], [], [], [], [], [], [], [], []] = true := by decide +kernel
theorem e_k152 : e_Ok 152 := by
  intro pc q hm
  have hm : (pc, q) ∈ (e_m 152).2.2.2.2.drop 0 := hm
  rcases e_Ok_c e_k152_0 hm with h | hm
  · exact h
  have hl : (e_m 152).2.2.2.2.length ≤ 60 := by decide +kernel
  rw [List.drop_eq_nil_of_le (by omega)] at hm
  cases hm
theorem e_j152 : e_OkM 152 := e_OkM_i (p1 := 1965) (p2 := 137) (by rfl) (by decide +kernel)
theorem e_k153_0 : e_okD (e_m 153).1.cls (e_m 153).1.name (e_m 153).2.1 (((e_m 153).2.2.2.2.drop 0).take 60) [[], [], [], [], [], [], [1962, 1964, 74], [], [], [], [], []] = true := by decide +kernel
theorem e_k153 : e_Ok 153 := by
  intro pc q hm
  have hm : (pc, q) ∈ (e_m 153).2.2.2.2.drop 0 := hm
  rcases e_Ok_c e_k153_0 hm with h | hm
  · exact h
  have hl : (e_m 153).2.2.2.2.length ≤ 60 := by decide +kernel
  rw [List.drop_eq_nil_of_le (by omega)] at hm
  cases hm
theorem e_j153 : e_OkM 153 := e_OkM_i (p1 := 1961) (p2 := 137) (by rfl) (by decide +kernel)
theorem e_k154_0 : e_okD (e_m 154).1.cls (e_m 154).1.name (e_m 154).2.1 (((e_m 154).2.2.2.2.drop 0).take 60) [[], [1648], [], [], [], [1644], [], [], [], [], [], [], [1650], [], [], [], [1646], [], [], [], [], [1649], [], [], [], [], [], [], [], [], [], [1649], [], [], [], [], [], [], [1958, 1960, 73], [], [], [], [], [], [], [], [1644], [], [], [], [], [1649], [], [], [], [], [], [], [], []] = true := by decide +kernel
theorem e_k154_60 : e_okD (e_m 154).1.cls (e_m 154).1.name (e_m 154).2.1 (((e_m 154).2.2.2.2.drop 60).take 60) [[], [1645], [], [], [], [], [], [], [], [], [], [], [], [], []] = true := by decide +kernel
theorem e_k154 : e_Ok 154 := by
  intro pc q hm
  have hm : (pc, q) ∈ (e_m 154).2.2.2.2.drop 0 := hm
  rcases e_Ok_c e_k154_0 hm with h | hm
  · exact h
  rcases e_Ok_c e_k154_60 hm with h | hm
  · exact h
  have hl : (e_m 154).2.2.2.2.length ≤ 120 := by decide +kernel
  rw [List.drop_eq_nil_of_le (by omega)] at hm
  cases hm
theorem e_j154 : e_OkM 154 := e_OkM_i (p1 := 1957) (p2 := 137) (by rfl) (by decide +kernel)
theorem e_k155_0 : e_okD (e_m 155).1.cls (e_m 155).1.name (e_m 155).2.1 (((e_m 155).2.2.2.2.drop 0).take 60) [[], [], [], [1647], [1927, 1929, 66], [], [], [1656], [], [], [], [], [], [], [], [], [1710], [], [], [], [], [], [], [], [], [], [1954, 1956, 72], [], [], [], [], [1709], [], [], [1709], [], [], [1710], []] = true := by decide +kernel
theorem e_k155 : e_Ok 155 := by
  intro pc q hm
  have hm : (pc, q) ∈ (e_m 155).2.2.2.2.drop 0 := hm
  rcases e_Ok_c e_k155_0 hm with h | hm
  · exact h
  have hl : (e_m 155).2.2.2.2.length ≤ 60 := by decide +kernel
  rw [List.drop_eq_nil_of_le (by omega)] at hm
  cases hm
theorem e_j155 : e_OkM 155 := e_OkM_i (p1 := 1953) (p2 := 137) (by rfl) (by decide +kernel)
theorem e_k156_0 : e_okD (e_m 156).1.cls (e_m 156).1.name (e_m 156).2.1 (((e_m 156).2.2.2.2.drop 0).take 60) [[], [], [1709], [], [], [1710], [], [], [1639], [], [], [], [], [1927, 1929, 66], [1639], [], [], [], [], [1639], [], [], [1710], [], [], [], [1934, 1936, 67], [], [], [], [], [], [], [1927, 1929, 66], [1643], [], [], [], [], [1643], [], [], [1710], [], [], [], [1942, 1944, 69], [], [], [], [], [], [], [1927, 1929, 66], [1647], [], [], [], [], [1647]] = true := by decide +kernel
theorem e_k156_60 : e_okD (e_m 156).1.cls (e_m 156).1.name (e_m 156).2.1 (((e_m 156).2.2.2.2.drop 60).take 60) [[], [], [1710], [], [], [], [1946, 1948, 70], [], [], [], [], [], [], [1639], [], [1643], [], [], [], [1710], [], [], [], [], [1643], [], [], [], [1643], [], [1950, 1952, 71], [], [], [], [1710], [], [], [1709], [], [1632], [], [], [], [1710], [], [1710], [], [], [], [], []] = true := by decide +kernel
theorem e_k156 : e_Ok 156 := by
  intro pc q hm
  have hm : (pc, q) ∈ (e_m 156).2.2.2.2.drop 0 := hm
  rcases e_Ok_c e_k156_0 hm with h | hm
  · exact h
  rcases e_Ok_c e_k156_60 hm with h | hm
  · exact h
  have hl : (e_m 156).2.2.2.2.length ≤ 120 := by decide +kernel
  rw [List.drop_eq_nil_of_le (by omega)] at hm
  cases hm
theorem e_j156 : e_OkM 156 := e_OkM_i (p1 := 1926) (p2 := 137) (by rfl) (by decide +kernel)
theorem e_k157_0 : e_okD (e_m 157).1.cls (e_m 157).1.name (e_m 157).2.1 (((e_m 157).2.2.2.2.drop 0).take 60) [[], [], [], [], [], [], [], [], [], [], [], [], [], [], [], []] = true := by decide +kernel
theorem e_k157 : e_Ok 157 := by
  intro pc q hm
  have hm : (pc, q) ∈ (e_m 157).2.2.2.2.drop 0 := hm
  rcases e_Ok_c e_k157_0 hm with h | hm
  · exact h
  have hl : (e_m 157).2.2.2.2.length ≤ 60 := by decide +kernel
  rw [List.drop_eq_nil_of_le (by omega)] at hm
  cases hm
theorem e_j157 : e_OkM 157 := e_OkM_i (p1 := 1984) (p2 := 137) (by rfl) (by decide +kernel)
theorem e_k158_0 : e_okD (e_m 158).1.cls (e_m 158).1.name (e_m 158).2.1 (((e_m 158).2.2.2.2.drop 0).take 60) [[], [1654], [], [], [], [], [], [], []] = true := by decide +kernel
theorem e_k158 : e_Ok 158 := by
  intro pc q hm
  have hm : (pc, q) ∈ (e_m 158).2.2.2.2.drop 0 := hm
  rcases e_Ok_c e_k158_0 hm with h | hm
  · exact h
  have hl : (e_m 158).2.2.2.2.length ≤ 60 := by decide +kernel
  rw [List.drop_eq_nil_of_le (by omega)] at hm
  cases hm
theorem e_j158 : e_OkM 158 := e_OkM_i (p1 := 1981) (p2 := 137) (by rfl) (by decide +kernel)
theorem e_k159_0 : e_okD (e_m 159).1.cls (e_m 159).1.name (e_m 159).2.1 (((e_m 159).2.2.2.2.drop 0).take 60) [[], [], [], [1978, 1980, 78], [], [], [], [], [], [], [], [], [], [], [], [1653], [], [], [], [], [], [], [], [], [], [], [], [], [], [], [1978, 1980, 78], [], [], [], [1982, 1983], [], [], [], [], [], [1653], [], [], [], [], [], [], []] = true := by decide +kernel
theorem e_k159 : e_Ok 159 := by
  intro pc q hm
  have hm : (pc, q) ∈ (e_m 159).2.2.2.2.drop 0 := hm
  rcases e_Ok_c e_k159_0 hm with h | hm
  · exact h
  have hl : (e_m 159).2.2.2.2.length ≤ 60 := by decide +kernel
  rw [List.drop_eq_nil_of_le (by omega)] at hm
  cases hm
theorem e_j159 : e_OkM 159 := e_OkM_i (p1 := 1977) (p2 := 137) (by rfl) (by decide +kernel)
theorem e_k160_0 : e_okD (e_m 160).1.cls (e_m 160).1.name (e_m 160).2.1 (((e_m 160).2.2.2.2.drop 0).take 60) [[], [], [], [], [], [], [1655], [], [], [], [], [], [], [], [], [], [], [], [], [], [], [], [1653], [], [], [], [], [1655], [], [], [], [], [], [], [], [], [], [], [1974, 1976, 77], [], [], [], [], [], [], [], [], [], [], [], []] = true := by decide +kernel
theorem e_k160 : e_Ok 160 := by
  intro pc q hm
  have hm : (pc, q) ∈ (e_m 160).2.2.2.2.drop 0 := hm
  rcases e_Ok_c e_k160_0 hm with h | hm
  · exact h
  have hl : (e_m 160).2.2.2.2.length ≤ 60 := by decide +kernel
  rw [List.drop_eq_nil_of_le (by omega)] at hm
  cases hm
theorem e_j160 : e_OkM 160 := e_OkM_i (p1 := 1973) (p2 := 137) (by rfl) (by decide +kernel)
theorem e_k161_0 : e_okD (e_m 161).1.cls (e_m 161).1.name (e_m 161).2.1 (((e_m 161).2.2.2.2.drop 0).take 60) [[], [], [1653], [], [], [], [], [1655], [], [], [], [], [], [], [], [], [], [], []] = true := by decide +kernel
theorem e_k161 : e_Ok 161 := by
  intro pc q hm
  have hm : (pc, q) ∈ (e_m 161).2.2.2.2.drop 0 := hm
  rcases e_Ok_c e_k161_0 hm with h | hm
  · exact h
  have hl : (e_m 161).2.2.2.2.length ≤ 60 := by decide +kernel
  rw [List.drop_eq_nil_of_le (by omega)] at hm
  cases hm
theorem e_j161 : e_OkM 161 := e_OkM_i (p1 := 1992) (p2 := 137) (by rfl) (by decide +kernel)
theorem e_k162_0 : e_okD (e_m 162).1.cls (e_m 162).1.name (e_m 162).2.1 (((e_m 162).2.2.2.2.drop 0).take 60) [[], [], [], [1974, 1976, 77], [], [], [], [], [], [], [], [], [], [1978, 1980, 78], [], [], [], [], [], [], [], [], [], [1978, 1980, 78], [], [], [], [], [], [], [], [1653], [], [], [], [], [], [], [], [], [], [], [], [], [], [], [], [], [], [], [], [], [], [1651], [], [], [], [], [], []] = true := by decide +kernel
