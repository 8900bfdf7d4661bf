set_option maxRecDepth 100000
theorem e_k213_180 : e_okD (e_m 213).1.cls (e_m 213).1.name (e_m 213).2.1 (((e_m 213).2.2.2.2.drop 180).take 60) [[], [], [], [], [], [], [], [], [1705], [], [], [2153, 2155, 112], [2117, 2119, 104], [], [2180, 2182, 118], [], [], [2153, 2155, 112], [], [], [], [], [], [], [1703], [], [], [2117, 2119, 104], [], [], [1958, 1960, 73], [], [], [], [], [2180, 2182, 118], [], [], [], [2153, 2155, 112], [], [], [1675], [], [], [], [1676], [], [1675], [], [], [], [], [1675], [], [], [1675], [], [], []] = true := by decide +kernel
theorem e_k213_240 : e_okD (e_m 213).1.cls (e_m 213).1.name (e_m 213).2.1 (((e_m 213).2.2.2.2.drop 240).take 60) [[2188, 2190, 120], [2180, 2182, 118], [], [], [2153, 2155, 112], [], [], [2153, 2155, 112], [], [], [], [], [], [2192, 2193], [2180, 2182, 118], []] = true := by decide +kernel
theorem e_k213 : e_Ok 213 := by
  intro pc q hm
  have hm : (pc, q) ∈ (e_m 213).2.2.2.2.drop 0 := hm
  rcases e_Ok_c e_k213_0 hm with h | hm
  · exact h
  rcases e_Ok_c e_k213_60 hm with h | hm
  · exact h
  rcases e_Ok_c e_k213_120 hm with h | hm
  · exact h
  rcases e_Ok_c e_k213_180 hm with h | hm
  · exact h
  rcases e_Ok_c e_k213_240 hm with h | hm
  · exact h
  have hl : (e_m 213).2.2.2.2.length ≤ 300 := by decide +kernel
  rw [List.drop_eq_nil_of_le (by omega)] at hm
  cases hm
theorem e_j213 : e_OkM 213 := e_OkM_i (p1 := 2187) (p2 := 137) (by rfl) (by decide +kernel)
theorem e_k214_0 : e_okD (e_m 214).1.cls (e_m 214).1.name (e_m 214).2.1 (((e_m 214).2.2.2.2.drop 0).take 60) [[], [1667], [], [], [], [], [1668], [], [], [], [], [], [1667], [], [], [1667], [], [], [], [], [1667], [], [], [1668], [], [], [1668], [], [], [], [], [], [], [], [], []] = true := by decide +kernel
theorem e_k214 : e_Ok 214 := by
  intro pc q hm
  have hm : (pc, q) ∈ (e_m 214).2.2.2.2.drop 0 := hm
  rcases e_Ok_c e_k214_0 hm with h | hm
  · exact h
  have hl : (e_m 214).2.2.2.2.length ≤ 60 := by decide +kernel
  rw [List.drop_eq_nil_of_le (by omega)] at hm
  cases hm
theorem e_j214 : e_OkM 214 := e_OkM_i (p1 := 2191) (p2 := 137) (by rfl) (by decide +kernel)
theorem e_k215_0 : e_okD (e_m 215).1.cls (e_m 215).1.name (e_m 215).2.1 (((e_m 215).2.2.2.2.drop 0).take 60) [[], [], [], [1931, 1932], [], [], [], [2048, 2050, 94], [], [], [1669], [], [], [], [], [2048, 2050, 94], [], [], [1673], [2104], [], [], [], [2048, 2050, 94], [], [], [], [1628], [], [], [], [], [], [], [], [2105, 2107, 101], [], [], [], [], [], [], [], [], [], [], [], [1672], [], [], [], [], [], [], [1672], [], [], [1673], [], []] = true := by decide +kernel
theorem e_k215_60 : e_okD (e_m 215).1.cls (e_m 215).1.name (e_m 215).2.1 (((e_m 215).2.2.2.2.drop 60).take 60) [[], [], [], [], [1673], [], [1669], [], [], [], [], [], [], [1673], [2104], [], [], [], [], [], [], [], []] = true := by decide +kernel
theorem e_k215 : e_Ok 215 := by
  intro pc q hm
  have hm : (pc, q) ∈ (e_m 215).2.2.2.2.drop 0 := hm
  rcases e_Ok_c e_k215_0 hm with h | hm
  · exact h
  rcases e_Ok_c e_k215_60 hm with h | hm
  · exact h
  have hl : (e_m 215).2.2.2.2.length ≤ 120 := by decide +kernel
  rw [List.drop_eq_nil_of_le (by omega)] at hm
  cases hm
theorem e_j215 : e_OkM 215 := e_OkM_i (p1 := 2103) (p2 := 137) (by rfl) (by decide +kernel)
theorem e_k216_0 : e_okD (e_m 216).1.cls (e_m 216).1.name (e_m 216).2.1 (((e_m 216).2.2.2.2.drop 0).take 60) [[], [], [1628], [], [1669], []] = true := by decide +kernel
theorem e_k216 : e_Ok 216 := by
  intro pc q hm
  have hm : (pc, q) ∈ (e_m 216).2.2.2.2.drop 0 := hm
  rcases e_Ok_c e_k216_0 hm with h | hm
  · exact h
  have hl : (e_m 216).2.2.2.2.length ≤ 60 := by decide +kernel
  rw [List.drop_eq_nil_of_le (by omega)] at hm
  cases hm
theorem e_j216 : e_OkM 216 := e_OkM_i (p1 := 2198) (p2 := 137) (by rfl) (by decide +kernel)
theorem e_k217_0 : e_okD (e_m 217).1.cls (e_m 217).1.name (e_m 217).2.1 (((e_m 217).2.2.2.2.drop 0).take 60) [[], [], [1628], [], [], [], [], [], [], [], [], [1669], [], [], [], [1669], [], [], [], [], [], [], [], [1670], [], [], [1671], []] = true := by decide +kernel
theorem e_k217 : e_Ok 217 := by
  intro pc q hm
  have hm : (pc, q) ∈ (e_m 217).2.2.2.2.drop 0 := hm
  rcases e_Ok_c e_k217_0 hm with h | hm
  · exact h
  have hl : (e_m 217).2.2.2.2.length ≤ 60 := by decide +kernel
  rw [List.drop_eq_nil_of_le (by omega)] at hm
  cases hm
theorem e_j217 : e_OkM 217 := e_OkM_i (p1 := 2202) (p2 := 137) (by rfl) (by decide +kernel)
theorem e_k218_0 : e_okD (e_m 218).1.cls (e_m 218).1.name (e_m 218).2.1 (((e_m 218).2.2.2.2.drop 0).take 60) [[], [], [1669], [], [], [], [], [], [1675], [], [], [], [], [], [], [], [1628], [], [1628], [], [], [1676], [], [], [], [], []] = true := by decide +kernel
theorem e_k218 : e_Ok 218 := by
  intro pc q hm
  have hm : (pc, q) ∈ (e_m 218).2.2.2.2.drop 0 := hm
  rcases e_Ok_c e_k218_0 hm with h | hm
  · exact h
  have hl : (e_m 218).2.2.2.2.length ≤ 60 := by decide +kernel
  rw [List.drop_eq_nil_of_le (by omega)] at hm
  cases hm
theorem e_j218 : e_OkM 218 := e_OkM_i (p1 := 2206) (p2 := 137) (by rfl) (by decide +kernel)
theorem e_k219_0 : e_okD (e_m 219).1.cls (e_m 219).1.name (e_m 219).2.1 (((e_m 219).2.2.2.2.drop 0).take 60) [[], [1669], [], [], [], [], [1688], [], [], [1931, 1932], [], [], [], [], [1688], [], [], [], [], []] = true := by decide +kernel
theorem e_k219 : e_Ok 219 := by
  intro pc q hm
  have hm : (pc, q) ∈ (e_m 219).2.2.2.2.drop 0 := hm
  rcases e_Ok_c e_k219_0 hm with h | hm
  · exact h
  have hl : (e_m 219).2.2.2.2.length ≤ 60 := by decide +kernel
  rw [List.drop_eq_nil_of_le (by omega)] at hm
  cases hm
theorem e_j219 : e_OkM 219 := e_OkM_i (p1 := 2214) (p2 := 137) (by rfl) (by decide +kernel)
theorem e_k220_0 : e_okD (e_m 220).1.cls (e_m 220).1.name (e_m 220).2.1 (((e_m 220).2.2.2.2.drop 0).take 60) [[], [], [1628], [], [], [2211, 2213, 121], [], [], [], [], [], [], [], [], [], [1689], [], [], [], [], [1690], [], [], [], [], [1692], [], [], [], [], [1695], [], [], [], [], []] = true := by decide +kernel
theorem e_k220 : e_Ok 220 := by
  intro pc q hm
  have hm : (pc, q) ∈ (e_m 220).2.2.2.2.drop 0 := hm
  rcases e_Ok_c e_k220_0 hm with h | hm
  · exact h
  have hl : (e_m 220).2.2.2.2.length ≤ 60 := by decide +kernel
  rw [List.drop_eq_nil_of_le (by omega)] at hm
  cases hm
theorem e_j220 : e_OkM 220 := e_OkM_i (p1 := 2210) (p2 := 137) (by rfl) (by decide +kernel)
theorem e_k221_0 : e_okD (e_m 221).1.cls (e_m 221).1.name (e_m 221).2.1 (((e_m 221).2.2.2.2.drop 0).take 60) [[], [], [2211, 2213, 121], [], [], [], [1718], [], [], [], [], [], [], [], [2130, 2132, 107], [], [], [], [], [], [1651], [], [1689], [], [], [], [], [], [1931, 1932], [], [], [], [1658], [], [], [], [], [1718], [], [], [1696], [], [], [], [], [], [], [1719], [], [], [], [], [], [1695], [], [], [], [1931, 1932], [], []] = true := by decide +kernel
theorem e_k221_60 : e_okD (e_m 221).1.cls (e_m 221).1.name (e_m 221).2.1 (((e_m 221).2.2.2.2.drop 60).take 60) [[], [1658], [], [], [], [], [], [], [1718], [], [], [1697], [], [], [], [], [], [], [], [], [1719], []] = true := by decide +kernel
theorem e_k221 : e_Ok 221 := by
  intro pc q hm
  have hm : (pc, q) ∈ (e_m 221).2.2.2.2.drop 0 := hm
  rcases e_Ok_c e_k221_0 hm with h | hm
  · exact h
  rcases e_Ok_c e_k221_60 hm with h | hm
  · exact h
  have hl : (e_m 221).2.2.2.2.length ≤ 120 := by decide +kernel
  rw [List.drop_eq_nil_of_le (by omega)] at hm
  cases hm
theorem e_j221 : e_OkM 221 := e_OkM_i (p1 := 2222) (p2 := 137) (by rfl) (by decide +kernel)
theorem e_k222_0 : e_okD (e_m 222).1.cls (e_m 222).1.name (e_m 222).2.1 (((e_m 222).2.2.2.2.drop 0).take 60) [[], [], [], [2219, 2221, 122], [], [], [1718], [], [], [], [], [1628], [], [1628], [], [], [1719], [], [], []] = true := by decide +kernel
theorem e_k222 : e_Ok 222 := by
  intro pc q hm
  have hm : (pc, q) ∈ (e_m 222).2.2.2.2.drop 0 := hm
  rcases e_Ok_c e_k222_0 hm with h | hm
  · exact h
  have hl : (e_m 222).2.2.2.2.length ≤ 60 := by decide +kernel
  rw [List.drop_eq_nil_of_le (by omega)] at hm
  cases hm
theorem e_j222 : e_OkM 222 := e_OkM_i (p1 := 2218) (p2 := 137) (by rfl) (by decide +kernel)
theorem e_k223_0 : e_okD (e_m 223).1.cls (e_m 223).1.name (e_m 223).2.1 (((e_m 223).2.2.2.2.drop 0).take 60) [[], [], [], [2219, 2221, 122], [], [], [1628], [], [1718], [2134, 2135], [], [], [1719], [], [], [], [], [], [], [], [1719], [2117, 2119, 104], [], [], [], [], [], [], [], [], [1705], [], [], [], [], [], [], [], [1628], [], [], [], [1703], [], [], [], [], [], [], [], [1705], [], [], [], [], [1708], [], [1704], [], []] = true := by decide +kernel
theorem e_k223_60 : e_okD (e_m 223).1.cls (e_m 223).1.name (e_m 223).2.1 (((e_m 223).2.2.2.2.drop 60).take 60) [[], [], [], [], [], []] = true := by decide +kernel
theorem e_k223 : e_Ok 223 := by
  intro pc q hm
  have hm : (pc, q) ∈ (e_m 223).2.2.2.2.drop 0 := hm
  rcases e_Ok_c e_k223_0 hm with h | hm
  · exact h
  rcases e_Ok_c e_k223_60 hm with h | hm
  · exact h
  have hl : (e_m 223).2.2.2.2.length ≤ 120 := by decide +kernel
  rw [List.drop_eq_nil_of_le (by omega)] at hm
  cases hm
theorem e_j223 : e_OkM 223 := e_OkM_i (p1 := 2226) (p2 := 137) (by rfl) (by decide +kernel)
theorem e_k224_0 : e_okD (e_m 224).1.cls (e_m 224).1.name (e_m 224).2.1 (((e_m 224).2.2.2.2.drop 0).take 60) [[], [1635], [], [], [], [], [1647], [], [], [1931, 1932], [], [], [], [], []] = true := by decide +kernel
theorem e_k224 : e_Ok 224 := by
  intro pc q hm
  have hm : (pc, q) ∈ (e_m 224).2.2.2.2.drop 0 := hm
  rcases e_Ok_c e_k224_0 hm with h | hm
  · exact h
  have hl : (e_m 224).2.2.2.2.length ≤ 60 := by decide +kernel
  rw [List.drop_eq_nil_of_le (by omega)] at hm
  cases hm
theorem e_j224 : e_OkM 224 := e_OkM_i (p1 := 2234) (p2 := 137) (by rfl) (by decide +kernel)
theorem e_k225_0 : e_okD (e_m 225).1.cls (e_m 225).1.name (e_m 225).2.1 (((e_m 225).2.2.2.2.drop 0).take 60) [[], [], [1628], [], [], [2231, 2233, 123], [], [], [], [], [1931, 1932], [], [], [], [], [1669], [], [], [], [], [], [], [1677], [], [], [], [], [1678], [], [], [], [], [], [], [], [], [], [], [], [], [1684], [], [1678], [], [], [], []] = true := by decide +kernel
theorem e_k225 : e_Ok 225 := by
  intro pc q hm
  have hm : (pc, q) ∈ (e_m 225).2.2.2.2.drop 0 := hm
  rcases e_Ok_c e_k225_0 hm with h | hm
  · exact h
  have hl : (e_m 225).2.2.2.2.length ≤ 60 := by decide +kernel
  rw [List.drop_eq_nil_of_le (by omega)] at hm
  cases hm
theorem e_j225 : e_OkM 225 := e_OkM_i (p1 := 2230) (p2 := 137) (by rfl) (by decide +kernel)
