set_option maxRecDepth 100000
theorem e_k226_0 : e_okD (e_m 226).1.cls (e_m 226).1.name (e_m 226).2.1 (((e_m 226).2.2.2.2.drop 0).take 60) [[], [], [1628], [], [], [2231, 2233, 123], [], [], [1669], [], [], [1678], [], [], [], [], [], [], [], [1684], [], [1678], [], [], [], [], [], [1931, 1932], [], [], [], [], [1931, 1932], [], [], [], [], [1687], [], [], [1683], [], [1678], [], [], [], [], [], [], [], [], [], []] = true := by decide +kernel
theorem e_k226 : e_Ok 226 := by
  intro pc q hm
  have hm : (pc, q) ∈ (e_m 226).2.2.2.2.drop 0 := hm
  rcases e_Ok_c e_k226_0 hm with h | hm
  · exact h
  have hl : (e_m 226).2.2.2.2.length ≤ 60 := by decide +kernel
  rw [List.drop_eq_nil_of_le (by omega)] at hm
  cases hm
theorem e_j226 : e_OkM 226 := e_OkM_i (p1 := 2238) (p2 := 137) (by rfl) (by decide +kernel)
theorem e_k227_0 : e_okD (e_m 227).1.cls (e_m 227).1.name (e_m 227).2.1 (((e_m 227).2.2.2.2.drop 0).take 60) [[], [], [1628], [], [], [2231, 2233, 123], [], [], [1669], [], [], [], [], [1653], [], [], [], [], [1931, 1932], [], [], [1655], [], [], [], [], [], [], [], [], [], [], [], [], [1978, 1980, 78], [], [], [], [], [], [], [], [], [], [], [], [], [1639], [], [], [1931, 1932], [], [], [], [], [], [], [], [], []] = true := by decide +kernel
theorem e_k227_60 : e_okD (e_m 227).1.cls (e_m 227).1.name (e_m 227).2.1 (((e_m 227).2.2.2.2.drop 60).take 60) [[], [], [2088, 2090, 98], [], [], []] = true := by decide +kernel
theorem e_k227 : e_Ok 227 := by
  intro pc q hm
  have hm : (pc, q) ∈ (e_m 227).2.2.2.2.drop 0 := hm
  rcases e_Ok_c e_k227_0 hm with h | hm
  · exact h
  rcases e_Ok_c e_k227_60 hm with h | hm
  · exact h
  have hl : (e_m 227).2.2.2.2.length ≤ 120 := by decide +kernel
  rw [List.drop_eq_nil_of_le (by omega)] at hm
  cases hm
theorem e_j227 : e_OkM 227 := e_OkM_i (p1 := 2242) (p2 := 137) (by rfl) (by decide +kernel)
theorem e_k228_0 : e_okD (e_m 228).1.cls (e_m 228).1.name (e_m 228).2.1 (((e_m 228).2.2.2.2.drop 0).take 60) [[], [], [1628], [], [1669], [], [], [], [], [1680], [], [], [1931, 1932], [], [], [], [], [1931, 1932], [], [], [], [], [1681], [], [], [], [], [], [], []] = true := by decide +kernel
theorem e_k228 : e_Ok 228 := by
  intro pc q hm
  have hm : (pc, q) ∈ (e_m 228).2.2.2.2.drop 0 := hm
  rcases e_Ok_c e_k228_0 hm with h | hm
  · exact h
  have hl : (e_m 228).2.2.2.2.length ≤ 60 := by decide +kernel
  rw [List.drop_eq_nil_of_le (by omega)] at hm
  cases hm
theorem e_j228 : e_OkM 228 := e_OkM_i (p1 := 2246) (p2 := 137) (by rfl) (by decide +kernel)
theorem e_k229_0 : e_okD (e_m 229).1.cls (e_m 229).1.name (e_m 229).2.1 (((e_m 229).2.2.2.2.drop 0).take 60) [[], [], [1628], [], [1669], [], [], [], [], [], [], [], [], [], [], [1672], [], [], [], [], [1673], [], [], [], [], [1675], [], [], [], [], [], [], [1688], [], [], [], [], [], [], [1680], [], [], [], [], [], [], [1699], [], [], [], [], [], [], [1700], [], [], [], [], [1674], []] = true := by decide +kernel
theorem e_k229_60 : e_okD (e_m 229).1.cls (e_m 229).1.name (e_m 229).2.1 (((e_m 229).2.2.2.2.drop 60).take 60) [[], [1667], [], [], [], [], [1698], [], [], [], [], []] = true := by decide +kernel
theorem e_k229 : e_Ok 229 := by
  intro pc q hm
  have hm : (pc, q) ∈ (e_m 229).2.2.2.2.drop 0 := hm
  rcases e_Ok_c e_k229_0 hm with h | hm
  · exact h
  rcases e_Ok_c e_k229_60 hm with h | hm
  · exact h
  have hl : (e_m 229).2.2.2.2.length ≤ 120 := by decide +kernel
  rw [List.drop_eq_nil_of_le (by omega)] at hm
  cases hm
theorem e_j229 : e_OkM 229 := e_OkM_i (p1 := 2250) (p2 := 137) (by rfl) (by decide +kernel)
theorem e_k230_0 : e_okD (e_m 230).1.cls (e_m 230).1.name (e_m 230).2.1 (((e_m 230).2.2.2.2.drop 0).take 60) [[], [], [], [], [], [], []] = true := by decide +kernel
theorem e_k230 : e_Ok 230 := by
  intro pc q hm
  have hm : (pc, q) ∈ (e_m 230).2.2.2.2.drop 0 := hm
  rcases e_Ok_c e_k230_0 hm with h | hm
  · exact h
  have hl : (e_m 230).2.2.2.2.length ≤ 60 := by decide +kernel
  rw [List.drop_eq_nil_of_le (by omega)] at hm
  cases hm
theorem e_j230 : e_OkM 230 := e_OkM_i (p1 := 826) (p2 := 138) (by rfl) (by decide +kernel)
theorem e_k231_0 : e_okD (e_m 231).1.cls (e_m 231).1.name (e_m 231).2.1 (((e_m 231).2.2.2.2.drop 0).take 60) [[], [], [], [], [], [], []] = true := by decide +kernel
theorem e_k231 : e_Ok 231 := by
  intro pc q hm
  have hm : (pc, q) ∈ (e_m 231).2.2.2.2.drop 0 := hm
  rcases e_Ok_c e_k231_0 hm with h | hm
  · exact h
  have hl : (e_m 231).2.2.2.2.length ≤ 60 := by decide +kernel
  rw [List.drop_eq_nil_of_le (by omega)] at hm
  cases hm
theorem e_j231 : e_OkM 231 := e_OkM_i (p1 := 844) (p2 := 138) (by rfl) (by decide +kernel)
theorem e_k232_0 : e_okD (e_m 232).1.cls (e_m 232).1.name (e_m 232).2.1 (((e_m 232).2.2.2.2.drop 0).take 60) [[], [], [], [], [], [], [], [], [], [], [], [], [], [], [], [], [], [], [], [], [], [], [], [], [], [], [], [], [], [], [], [], [], [], [], [], []] = true := by decide +kernel
theorem e_k232 : e_Ok 232 := by
  intro pc q hm
  have hm : (pc, q) ∈ (e_m 232).2.2.2.2.drop 0 := hm
  rcases e_Ok_c e_k232_0 hm with h | hm
  · exact h
  have hl : (e_m 232).2.2.2.2.length ≤ 60 := by decide +kernel
  rw [List.drop_eq_nil_of_le (by omega)] at hm
  cases hm
theorem e_j232 : e_OkM 232 := e_OkM_i (p1 := 726) (p2 := 134) (by rfl) (by decide +kernel)
theorem e_k233_0 : e_okD (e_m 233).1.cls (e_m 233).1.name (e_m 233).2.1 (((e_m 233).2.2.2.2.drop 0).take 60) [[], [], [], [], [], [], [], [], [], [], [], [], [], [], []] = true := by decide +kernel
theorem e_k233 : e_Ok 233 := by
  intro pc q hm
  have hm : (pc, q) ∈ (e_m 233).2.2.2.2.drop 0 := hm
  rcases e_Ok_c e_k233_0 hm with h | hm
  · exact h
  have hl : (e_m 233).2.2.2.2.length ≤ 60 := by decide +kernel
  rw [List.drop_eq_nil_of_le (by omega)] at hm
  cases hm
theorem e_j233 : e_OkM 233 := e_OkM_i (p1 := 394) (p2 := 134) (by rfl) (by decide +kernel)
theorem e_k234_0 : e_okD (e_m 234).1.cls (e_m 234).1.name (e_m 234).2.1 (((e_m 234).2.2.2.2.drop 0).take 60) [[], [], [], [], [724, 725], [], [], [], [], [], [], [], [], [], [], [], []] = true := by decide +kernel
theorem e_k234 : e_Ok 234 := by
  intro pc q hm
  have hm : (pc, q) ∈ (e_m 234).2.2.2.2.drop 0 := hm
  rcases e_Ok_c e_k234_0 hm with h | hm
  · exact h
  have hl : (e_m 234).2.2.2.2.length ≤ 60 := by decide +kernel
  rw [List.drop_eq_nil_of_le (by omega)] at hm
  cases hm
theorem e_j234 : e_OkM 234 := e_OkM_i (p1 := 723) (p2 := 134) (by rfl) (by decide +kernel)
theorem e_k235_0 : e_okD (e_m 235).1.cls (e_m 235).1.name (e_m 235).2.1 (((e_m 235).2.2.2.2.drop 0).take 60) [[], [], [], [], [], [], [], [], [], [234], [], [], [], [], [], [], [], [], [842, 843, 138, 844], [845, 847, 846, 148], [], []] = true := by decide +kernel
theorem e_k235 : e_Ok 235 := by
  intro pc q hm
  have hm : (pc, q) ∈ (e_m 235).2.2.2.2.drop 0 := hm
  rcases e_Ok_c e_k235_0 hm with h | hm
  · exact h
  have hl : (e_m 235).2.2.2.2.length ≤ 60 := by decide +kernel
  rw [List.drop_eq_nil_of_le (by omega)] at hm
  cases hm
theorem e_j235 : e_OkM 235 := e_OkM_i (p1 := 1071) (p2 := 134) (by rfl) (by decide +kernel)
