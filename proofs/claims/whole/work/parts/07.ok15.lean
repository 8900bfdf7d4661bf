set_option maxRecDepth 100000
theorem e_k180_0 : e_okD (e_m 180).1.cls (e_m 180).1.name (e_m 180).2.1 (((e_m 180).2.2.2.2.drop 0).take 60) [[], [], [], [], [], [], [], [1657], [], [], [], [], [], [], [], [], [], [2009, 2011, 85], [], [1661], [], [], [1660], [], [1652], [], [], [], [], [], [], [], [], [], [], [], [1657], [], [], [], [], [], [], [], [1978, 1980, 78], [], [], [1653], [], [], [], [], [], [], [], [], [], [], [], [1978, 1980, 78]] = true := by decide +kernel
theorem e_k180_60 : e_okD (e_m 180).1.cls (e_m 180).1.name (e_m 180).2.1 (((e_m 180).2.2.2.2.drop 60).take 60) [[], [], [], [], [1657], [], [], [], [], [1658], [], [], [], [], [], [], [], [], [1657], [], [], [], [], [], [1658], [], [], [], [], [], [], [], [], [], [], [1658], [], [], [], [], [], [], [], [], [], [], [], [], [], [], [], [], [], [], [], [], [], [], [], []] = true := by decide +kernel
theorem e_k180_120 : e_okD (e_m 180).1.cls (e_m 180).1.name (e_m 180).2.1 (((e_m 180).2.2.2.2.drop 120).take 60) [[], [], [], [], [], [], [], [], [], [1658], [], [], [], [], [], [], [], [], [], [], [], [], [], [2033, 2034], [], [], [], [], [], [], [2033, 2034], [], [], [2033, 2034], [], [], [], [], [], [], [], [], [], [], [], [], [], [], [], [], [], [], [], [], [], [], [2036, 2038, 91], [], [], []] = true := by decide +kernel
theorem e_k180_180 : e_okD (e_m 180).1.cls (e_m 180).1.name (e_m 180).2.1 (((e_m 180).2.2.2.2.drop 180).take 60) [[], [], [], [], [], [], [], [2036, 2038, 91], [], [], [], [], [1642], [], [], [], [], [], [], [], [], [1978, 1980, 78], [], [], [2036, 2038, 91], [], [], [], [], [], [], [], [], [], [], [], [2036, 2038, 91], [], [], [], [], [], [], [], [], [], [], [], [], [], [1658], [], [], [], [], [], [2036, 2038, 91], [], [], []] = true := by decide +kernel
theorem e_k180_240 : e_okD (e_m 180).1.cls (e_m 180).1.name (e_m 180).2.1 (((e_m 180).2.2.2.2.drop 240).take 60) [[], [], [], [], [], [2036, 2038, 91], [], [], [], [], [], [], [2033, 2034], [], [], [], [], [], [], [], [], [], [], [], [], [1648], [], [], [], [], [], [1658], [], [], [1648], [], [], [], [], [], [], [], [1649], [], [], [], [], [], [], [2036, 2038, 91], [], [], [], [], [], [], [], [], [1658], []] = true := by decide +kernel
theorem e_k180_300 : e_okD (e_m 180).1.cls (e_m 180).1.name (e_m 180).2.1 (((e_m 180).2.2.2.2.drop 300).take 60) [[], [], [], [1644], [], [], [], [], [], [], [], [], [], [1644], [], [], [], [], [], [1658], [], [], [1644], [], [], [], [], [], [], [], [1645], [], [], [], [], [], [], [2036, 2038, 91], [], [], [], [], [], [], [], [], [], [], [], [], [], [2040, 2042, 92], [], [], [], [], [], [], [], [1650]] = true := by decide +kernel
theorem e_k180_360 : e_okD (e_m 180).1.cls (e_m 180).1.name (e_m 180).2.1 (((e_m 180).2.2.2.2.drop 360).take 60) [[], [], [], [], [], [], [], [], [1650], [], [], [], [], [], [], [1650], [], [], [2036, 2038, 91], [], [], [], [], [], [], [], [], [], [], [], [], [], [], [], [], [], [], [], [], [], [], [], [], [], [], [], [], [], []] = true := by decide +kernel
theorem e_k180 : e_Ok 180 := by
  intro pc q hm
  have hm : (pc, q) ∈ (e_m 180).2.2.2.2.drop 0 := hm
  rcases e_Ok_c e_k180_0 hm with h | hm
  · exact h
  rcases e_Ok_c e_k180_60 hm with h | hm
  · exact h
  rcases e_Ok_c e_k180_120 hm with h | hm
  · exact h
  rcases e_Ok_c e_k180_180 hm with h | hm
  · exact h
  rcases e_Ok_c e_k180_240 hm with h | hm
  · exact h
  rcases e_Ok_c e_k180_300 hm with h | hm
  · exact h
  rcases e_Ok_c e_k180_360 hm with h | hm
  · exact h
  have hl : (e_m 180).2.2.2.2.length ≤ 420 := by decide +kernel
  rw [List.drop_eq_nil_of_le (by omega)] at hm
  cases hm
theorem e_j180 : e_OkM 180 := e_OkM_i (p1 := 2032) (p2 := 137) (by rfl) (by decide +kernel)
theorem e_k181_0 : e_okD (e_m 181).1.cls (e_m 181).1.name (e_m 181).2.1 (((e_m 181).2.2.2.2.drop 0).take 60) [[], [], [1628], [], [1635], [], [], [], [], [1647], [], [], [1931, 1932], [], [], [], [], [1653], [], [], [], [], [1931, 1932], [], [], [1657], [], [], [], [], [], [], [], [], [], [1655], [], [], [], [], [], [], [], [], [], [], [], [], [], [], [], [], [], [], [1651], [], [], [], [], [1931, 1932]] = true := by decide +kernel
theorem e_k181_60 : e_okD (e_m 181).1.cls (e_m 181).1.name (e_m 181).2.1 (((e_m 181).2.2.2.2.drop 60).take 60) [[], [], [1658], [], [], [], [], [], [], [], [], [], [], [], [1657], [], [], [], [1931, 1932], [], [], [1658], [], [], [], [], [], [], [], [], [], [], []] = true := by decide +kernel
theorem e_k181 : e_Ok 181 := by
  intro pc q hm
  have hm : (pc, q) ∈ (e_m 181).2.2.2.2.drop 0 := hm
  rcases e_Ok_c e_k181_0 hm with h | hm
  · exact h
  rcases e_Ok_c e_k181_60 hm with h | hm
  · exact h
  have hl : (e_m 181).2.2.2.2.length ≤ 120 := by decide +kernel
  rw [List.drop_eq_nil_of_le (by omega)] at hm
  cases hm
theorem e_j181 : e_OkM 181 := e_OkM_i (p1 := 2059) (p2 := 137) (by rfl) (by decide +kernel)
theorem e_k182_0 : e_okD (e_m 182).1.cls (e_m 182).1.name (e_m 182).2.1 (((e_m 182).2.2.2.2.drop 0).take 60) [[], [], [1628], [], [], [], [1931, 1932], [], [], [], [], [1931, 1932], [], [], [], [], [1931, 1932], [], [], [], [], [1931, 1932], [], [], [], [], [], [1662], [], [], [1663], [], [], [1664], [], [], [1665], [], []] = true := by decide +kernel
theorem e_k182 : e_Ok 182 := by
  intro pc q hm
  have hm : (pc, q) ∈ (e_m 182).2.2.2.2.drop 0 := hm
  rcases e_Ok_c e_k182_0 hm with h | hm
  · exact h
  have hl : (e_m 182).2.2.2.2.length ≤ 60 := by decide +kernel
  rw [List.drop_eq_nil_of_le (by omega)] at hm
  cases hm
theorem e_j182 : e_OkM 182 := e_OkM_i (p1 := 2063) (p2 := 137) (by rfl) (by decide +kernel)
theorem e_k183_0 : e_okD (e_m 183).1.cls (e_m 183).1.name (e_m 183).2.1 (((e_m 183).2.2.2.2.drop 0).take 60) [[], [], [1628], [], [], [], [1931, 1932], [], [], [], [], [], [1666], [], []] = true := by decide +kernel
theorem e_k183 : e_Ok 183 := by
  intro pc q hm
  have hm : (pc, q) ∈ (e_m 183).2.2.2.2.drop 0 := hm
  rcases e_Ok_c e_k183_0 hm with h | hm
  · exact h
  have hl : (e_m 183).2.2.2.2.length ≤ 60 := by decide +kernel
  rw [List.drop_eq_nil_of_le (by omega)] at hm
  cases hm
theorem e_j183 : e_OkM 183 := e_OkM_i (p1 := 2067) (p2 := 137) (by rfl) (by decide +kernel)
theorem e_k184_0 : e_okD (e_m 184).1.cls (e_m 184).1.name (e_m 184).2.1 (((e_m 184).2.2.2.2.drop 0).take 60) [[], [], [1628], [], [1667], [], [], [], [], [], [1668], [], [1667], [], [], [], [], [1667], [], [], [1667], [], []] = true := by decide +kernel
theorem e_k184 : e_Ok 184 := by
  intro pc q hm
  have hm : (pc, q) ∈ (e_m 184).2.2.2.2.drop 0 := hm
  rcases e_Ok_c e_k184_0 hm with h | hm
  · exact h
  have hl : (e_m 184).2.2.2.2.length ≤ 60 := by decide +kernel
  rw [List.drop_eq_nil_of_le (by omega)] at hm
  cases hm
theorem e_j184 : e_OkM 184 := e_OkM_i (p1 := 2071) (p2 := 137) (by rfl) (by decide +kernel)
