set_option maxRecDepth 100000
theorem e_k200_60 : e_okD (e_m 200).1.cls (e_m 200).1.name (e_m 200).2.1 (((e_m 200).2.2.2.2.drop 60).take 60) [[], [], [], [], [], [], [1695], [], [], [], [], [1658], [], [], [], [], [], [], [2134, 2135], [], [], [], [1697], [], [], [], [], [], [], [2137, 2139, 108], [], [], [], [], [], [], [], [], [1716], [], [], [], [1717], [], [], [2141, 2143, 109], [], [], [], [], [], [], [], [], [1699], [], [], [], [], [1701]] = true := by decide +kernel
theorem e_k200_120 : e_okD (e_m 200).1.cls (e_m 200).1.name (e_m 200).2.1 (((e_m 200).2.2.2.2.drop 120).take 60) [[], [], [1706], [], [], [], [], [], [], [], [], [1705], [], [], [], [], [1708], [], [], [], [], [1708], [], [1704], [], [], [], [], [], [], [], [], [], [1702], [], [], [1702], [], [], [], [], [1703], [], [], [1703], [], [], [], [], [1705], [], [], [1705], [], [], [], [], [1704], [], []] = true := by decide +kernel
theorem e_k200_180 : e_okD (e_m 200).1.cls (e_m 200).1.name (e_m 200).2.1 (((e_m 200).2.2.2.2.drop 180).take 60) [[], [], [], [1705], [], [], [], [], [], [], [1699], [], [], [1705], [], [], [], [], [1699], [], [], [], [], [], [1701], [], [], [1707], [], [], [], [1689], [], [1688], [], [], [], [], [], [1699], [2092, 2094, 99], []] = true := by decide +kernel
theorem e_k200 : e_Ok 200 := by
  intro pc q hm
  have hm : (pc, q) ∈ (e_m 200).2.2.2.2.drop 0 := hm
  rcases e_Ok_c e_k200_0 hm with h | hm
  · exact h
  rcases e_Ok_c e_k200_60 hm with h | hm
  · exact h
  rcases e_Ok_c e_k200_120 hm with h | hm
  · exact h
  rcases e_Ok_c e_k200_180 hm with h | hm
  · exact h
  have hl : (e_m 200).2.2.2.2.length ≤ 240 := by decide +kernel
  rw [List.drop_eq_nil_of_le (by omega)] at hm
  cases hm
theorem e_j200 : e_OkM 200 := e_OkM_i (p1 := 2129) (p2 := 137) (by rfl) (by decide +kernel)
theorem e_k201_0 : e_okD (e_m 201).1.cls (e_m 201).1.name (e_m 201).2.1 (((e_m 201).2.2.2.2.drop 0).take 60) [[], [1699], [], [2125], [], [], [], [], [], [1698], [], [], [], [], [2126, 2128, 106], [], [1699], [], [2125], [], [], [], [], [], [1698], [], [], [], [], [], [], [], [1699], [], [], [], [], [1699], [], [], [1700], [], [], [1700], [], [1702], [], [1701], [], [1700], [], [], [1703], [], [1701], [], [], [], [1705], []] = true := by decide +kernel
theorem e_k201_60 : e_okD (e_m 201).1.cls (e_m 201).1.name (e_m 201).2.1 (((e_m 201).2.2.2.2.drop 60).take 60) [[1701], [], [], [], [1704], [], [1701], [], [1707], [], [], [], [], [], [], [], [1708], [], [1707], [], [], [], [], [], [], [], [], [1707], [], [], [1707], [], [], [1701], [], [], [1701], [], [1700], []] = true := by decide +kernel
theorem e_k201 : e_Ok 201 := by
  intro pc q hm
  have hm : (pc, q) ∈ (e_m 201).2.2.2.2.drop 0 := hm
  rcases e_Ok_c e_k201_0 hm with h | hm
  · exact h
  rcases e_Ok_c e_k201_60 hm with h | hm
  · exact h
  have hl : (e_m 201).2.2.2.2.length ≤ 120 := by decide +kernel
  rw [List.drop_eq_nil_of_le (by omega)] at hm
  cases hm
theorem e_j201 : e_OkM 201 := e_OkM_i (p1 := 2124) (p2 := 137) (by rfl) (by decide +kernel)
theorem e_k202_0 : e_okD (e_m 202).1.cls (e_m 202).1.name (e_m 202).2.1 (((e_m 202).2.2.2.2.drop 0).take 60) [[], [1688], [], [], [], [], [1695], [], [], [], [], [], [], [], [1697], [], [], [], [], [1695], [], [], [], [], []] = true := by decide +kernel
theorem e_k202 : e_Ok 202 := by
  intro pc q hm
  have hm : (pc, q) ∈ (e_m 202).2.2.2.2.drop 0 := hm
  rcases e_Ok_c e_k202_0 hm with h | hm
  · exact h
  have hl : (e_m 202).2.2.2.2.length ≤ 60 := by decide +kernel
  rw [List.drop_eq_nil_of_le (by omega)] at hm
  cases hm
theorem e_j202 : e_OkM 202 := e_OkM_i (p1 := 2156) (p2 := 137) (by rfl) (by decide +kernel)
theorem e_k203_0 : e_okD (e_m 203).1.cls (e_m 203).1.name (e_m 203).2.1 (((e_m 203).2.2.2.2.drop 0).take 60) [[], [1688], [], [], [], [], [1697], [], [], [], [], [1695], [], [], [], [], [], [], [1695], [], [], [], [], [], [], []] = true := by decide +kernel
theorem e_k203 : e_Ok 203 := by
  intro pc q hm
  have hm : (pc, q) ∈ (e_m 203).2.2.2.2.drop 0 := hm
  rcases e_Ok_c e_k203_0 hm with h | hm
  · exact h
  have hl : (e_m 203).2.2.2.2.length ≤ 60 := by decide +kernel
  rw [List.drop_eq_nil_of_le (by omega)] at hm
  cases hm
theorem e_j203 : e_OkM 203 := e_OkM_i (p1 := 2183) (p2 := 137) (by rfl) (by decide +kernel)
theorem e_k204_0 : e_okD (e_m 204).1.cls (e_m 204).1.name (e_m 204).2.1 (((e_m 204).2.2.2.2.drop 0).take 60) [[], [1697], [], [], [1688], [], [], [], [], [1695], [], [1688], [], [], [], [], [], [], [], []] = true := by decide +kernel
theorem e_k204 : e_Ok 204 := by
  intro pc q hm
  have hm : (pc, q) ∈ (e_m 204).2.2.2.2.drop 0 := hm
  rcases e_Ok_c e_k204_0 hm with h | hm
  · exact h
  have hl : (e_m 204).2.2.2.2.length ≤ 60 := by decide +kernel
  rw [List.drop_eq_nil_of_le (by omega)] at hm
  cases hm
theorem e_j204 : e_OkM 204 := e_OkM_i (p1 := 2116) (p2 := 137) (by rfl) (by decide +kernel)
theorem e_k205_0 : e_okD (e_m 205).1.cls (e_m 205).1.name (e_m 205).2.1 (((e_m 205).2.2.2.2.drop 0).take 60) [[], [1688], [], [], [], [], [1692], [], [], [], [], [], [1690], [], [], [], [], [1677], [], [1689], [], [], [], [], [], [], [], [], [1690], [], [], [], []] = true := by decide +kernel
theorem e_k205 : e_Ok 205 := by
  intro pc q hm
  have hm : (pc, q) ∈ (e_m 205).2.2.2.2.drop 0 := hm
  rcases e_Ok_c e_k205_0 hm with h | hm
  · exact h
  have hl : (e_m 205).2.2.2.2.length ≤ 60 := by decide +kernel
  rw [List.drop_eq_nil_of_le (by omega)] at hm
  cases hm
theorem e_j205 : e_OkM 205 := e_OkM_i (p1 := 2163) (p2 := 137) (by rfl) (by decide +kernel)
theorem e_k206_0 : e_okD (e_m 206).1.cls (e_m 206).1.name (e_m 206).2.1 (((e_m 206).2.2.2.2.drop 0).take 60) [[], [], [], [], [], [], [], [], [], [], [], [], [], [], [], [], [], [], [], [], [], [], [], [], [], [], [], [], [], [], [], [], [], [], [], [], [], [], [], [], [], [], [], [], [], [], [], [], [], [], [], [], [], [], [], [], [], [], [], []] = true := by decide +kernel
theorem e_k206_60 : e_okD (e_m 206).1.cls (e_m 206).1.name (e_m 206).2.1 (((e_m 206).2.2.2.2.drop 60).take 60) [[], [], []] = true := by decide +kernel
theorem e_k206 : e_Ok 206 := by
  intro pc q hm
  have hm : (pc, q) ∈ (e_m 206).2.2.2.2.drop 0 := hm
  rcases e_Ok_c e_k206_0 hm with h | hm
  · exact h
  rcases e_Ok_c e_k206_60 hm with h | hm
  · exact h
  have hl : (e_m 206).2.2.2.2.length ≤ 120 := by decide +kernel
  rw [List.drop_eq_nil_of_le (by omega)] at hm
  cases hm
theorem e_j206 : e_OkM 206 := e_OkM_i (p1 := 2194) (p2 := 137) (by rfl) (by decide +kernel)
theorem e_k207_0 : e_okD (e_m 207).1.cls (e_m 207).1.name (e_m 207).2.1 (((e_m 207).2.2.2.2.drop 0).take 60) [[], [], [], [], [], [], [], [], [], [], [], [], [], [], [], [], [], [], [], [], [], [], [], [], [], [], [], [], [], [], [], [], [], [], [], [], [], [], [], [], [], [], [], []] = true := by decide +kernel
theorem e_k207 : e_Ok 207 := by
  intro pc q hm
  have hm : (pc, q) ∈ (e_m 207).2.2.2.2.drop 0 := hm
  rcases e_Ok_c e_k207_0 hm with h | hm
  · exact h
  have hl : (e_m 207).2.2.2.2.length ≤ 60 := by decide +kernel
  rw [List.drop_eq_nil_of_le (by omega)] at hm
  cases hm
theorem e_j207 : e_OkM 207 := e_OkM_i (p1 := 2159) (p2 := 137) (by rfl) (by decide +kernel)
theorem e_k208_0 : e_okD (e_m 208).1.cls (e_m 208).1.name (e_m 208).2.1 (((e_m 208).2.2.2.2.drop 0).take 60) [[], [], [], [], [], [], [], [], [], [], [], [], [2153, 2155, 112], [], [2157, 2158], [], [], [], [], [], [2153, 2155, 112], [], [], [2153, 2155, 112], [], [], [], [], [], [], [2157, 2158], [], [], [], [], [], [2153, 2155, 112], [], [], [], [], [], [], [], [], [], [], [], [], [], [], [], [], [2153, 2155, 112], [], [], [2153, 2155, 112], [], [], []] = true := by decide +kernel
theorem e_k208_60 : e_okD (e_m 208).1.cls (e_m 208).1.name (e_m 208).2.1 (((e_m 208).2.2.2.2.drop 60).take 60) [[], [], [], [], [], [], [], [], [], [], [], [], [], [], []] = true := by decide +kernel
theorem e_k208 : e_Ok 208 := by
  intro pc q hm
  have hm : (pc, q) ∈ (e_m 208).2.2.2.2.drop 0 := hm
  rcases e_Ok_c e_k208_0 hm with h | hm
  · exact h
  rcases e_Ok_c e_k208_60 hm with h | hm
  · exact h
  have hl : (e_m 208).2.2.2.2.length ≤ 120 := by decide +kernel
  rw [List.drop_eq_nil_of_le (by omega)] at hm
  cases hm
theorem e_j208 : e_OkM 208 := e_OkM_i (p1 := 2152) (p2 := 137) (by rfl) (by decide +kernel)
