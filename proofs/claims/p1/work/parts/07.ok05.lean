set_option maxRecDepth 100000
theorem e_k62_120 : e_okD (e_m 62).1.cls (e_m 62).1.name (e_m 62).2.1 (((e_m 62).2.2.2.2.drop 120).take 60) [[], [], [], [], [], [], [], [], [], [], [], []] = true := by decide +kernel
theorem e_k62 : e_Ok 62 := by
  intro pc q hm
  have hm : (pc, q) ∈ (e_m 62).2.2.2.2.drop 0 := hm
  rcases e_Ok_c e_k62_0 hm with h | hm
  · exact h
  rcases e_Ok_c e_k62_60 hm with h | hm
  · exact h
  rcases e_Ok_c e_k62_120 hm with h | hm
  · exact h
  have hl : (e_m 62).2.2.2.2.length ≤ 180 := by decide +kernel
  rw [List.drop_eq_nil_of_le (by omega)] at hm
  cases hm
theorem e_j62 : e_OkM 62 := e_OkM_i (p1 := 1884) (p2 := 137) (by rfl) (by decide +kernel)
theorem e_k63_0 : e_okD (e_m 63).1.cls (e_m 63).1.name (e_m 63).2.1 (((e_m 63).2.2.2.2.drop 0).take 60) [[], [], [], [], [], [], [], [], [], []] = true := by decide +kernel
theorem e_k63 : e_Ok 63 := by
  intro pc q hm
  have hm : (pc, q) ∈ (e_m 63).2.2.2.2.drop 0 := hm
  rcases e_Ok_c e_k63_0 hm with h | hm
  · exact h
  have hl : (e_m 63).2.2.2.2.length ≤ 60 := by decide +kernel
  rw [List.drop_eq_nil_of_le (by omega)] at hm
  cases hm
theorem e_j63 : e_OkM 63 := e_OkM_i (p1 := 1945) (p2 := 137) (by rfl) (by decide +kernel)
theorem e_k64_0 : e_okD (e_m 64).1.cls (e_m 64).1.name (e_m 64).2.1 (((e_m 64).2.2.2.2.drop 0).take 60) [[], [], [], [1740, 1741], [], [], [], [1857, 1859, 94], [], [], [1478], [], [], [], [], [1857, 1859, 94], [], [], [1482], [1913], [], [], [], [1857, 1859, 94], [], [], [], [1437], [], [], [], [], [], [], [], [], [], [], [], [], [], [], [], [], [], [], [], [1481], [], [], [], [], [], [], [1481], [], [], [1482], [], []] = true := by decide +kernel
theorem e_k64_60 : e_okD (e_m 64).1.cls (e_m 64).1.name (e_m 64).2.1 (((e_m 64).2.2.2.2.drop 60).take 60) [[], [], [], [], [1482], [], [1478], [], [], [], [], [], [], [1482], [1913], [], [], [], [], [], [], [], []] = true := by decide +kernel
theorem e_k64 : e_Ok 64 := by
  intro pc q hm
  have hm : (pc, q) ∈ (e_m 64).2.2.2.2.drop 0 := hm
  rcases e_Ok_c e_k64_0 hm with h | hm
  · exact h
  rcases e_Ok_c e_k64_60 hm with h | hm
  · exact h
  have hl : (e_m 64).2.2.2.2.length ≤ 120 := by decide +kernel
  rw [List.drop_eq_nil_of_le (by omega)] at hm
  cases hm
theorem e_j64 : e_OkM 64 := e_OkM_i (p1 := 1912) (p2 := 137) (by rfl) (by decide +kernel)
theorem e_k65_0 : e_okD (e_m 65).1.cls (e_m 65).1.name (e_m 65).2.1 (((e_m 65).2.2.2.2.drop 0).take 60) [[], [], [1437], [], [1478], []] = true := by decide +kernel
theorem e_k65 : e_Ok 65 := by
  intro pc q hm
  have hm : (pc, q) ∈ (e_m 65).2.2.2.2.drop 0 := hm
  rcases e_Ok_c e_k65_0 hm with h | hm
  · exact h
  have hl : (e_m 65).2.2.2.2.length ≤ 60 := by decide +kernel
  rw [List.drop_eq_nil_of_le (by omega)] at hm
  cases hm
theorem e_j65 : e_OkM 65 := e_OkM_i (p1 := 2007) (p2 := 137) (by rfl) (by decide +kernel)
theorem e_k66_0 : e_okD (e_m 66).1.cls (e_m 66).1.name (e_m 66).2.1 (((e_m 66).2.2.2.2.drop 0).take 60) [[], [], [1437], [], [], [], [], [], [], [], [], [1478], [], [], [], [1478], [], [], [], [], [], [], [], [1479], [], [], [1480], []] = true := by decide +kernel
theorem e_k66 : e_Ok 66 := by
  intro pc q hm
  have hm : (pc, q) ∈ (e_m 66).2.2.2.2.drop 0 := hm
  rcases e_Ok_c e_k66_0 hm with h | hm
  · exact h
  have hl : (e_m 66).2.2.2.2.length ≤ 60 := by decide +kernel
  rw [List.drop_eq_nil_of_le (by omega)] at hm
  cases hm
theorem e_j66 : e_OkM 66 := e_OkM_i (p1 := 2011) (p2 := 137) (by rfl) (by decide +kernel)
theorem e_k67_0 : e_okD (e_m 67).1.cls (e_m 67).1.name (e_m 67).2.1 (((e_m 67).2.2.2.2.drop 0).take 60) [[], [], [1478], [], [], [], [], [], [1484], [], [], [], [], [], [], [], [1437], [], [1437], [], [], [1485], [], [], [], [], []] = true := by decide +kernel
theorem e_k67 : e_Ok 67 := by
  intro pc q hm
  have hm : (pc, q) ∈ (e_m 67).2.2.2.2.drop 0 := hm
  rcases e_Ok_c e_k67_0 hm with h | hm
  · exact h
  have hl : (e_m 67).2.2.2.2.length ≤ 60 := by decide +kernel
  rw [List.drop_eq_nil_of_le (by omega)] at hm
  cases hm
theorem e_j67 : e_OkM 67 := e_OkM_i (p1 := 2015) (p2 := 137) (by rfl) (by decide +kernel)
theorem e_k68_0 : e_okD (e_m 68).1.cls (e_m 68).1.name (e_m 68).2.1 (((e_m 68).2.2.2.2.drop 0).take 60) [[], [1478], [], [], [], [], [1497], [], [], [1740, 1741], [], [], [], [], [1497], [], [], [], [], []] = true := by decide +kernel
theorem e_k68 : e_Ok 68 := by
  intro pc q hm
  have hm : (pc, q) ∈ (e_m 68).2.2.2.2.drop 0 := hm
  rcases e_Ok_c e_k68_0 hm with h | hm
  · exact h
  have hl : (e_m 68).2.2.2.2.length ≤ 60 := by decide +kernel
  rw [List.drop_eq_nil_of_le (by omega)] at hm
  cases hm
theorem e_j68 : e_OkM 68 := e_OkM_i (p1 := 2023) (p2 := 137) (by rfl) (by decide +kernel)
theorem e_k69_0 : e_okD (e_m 69).1.cls (e_m 69).1.name (e_m 69).2.1 (((e_m 69).2.2.2.2.drop 0).take 60) [[], [], [1437], [], [], [2020, 2022, 121], [], [], [], [], [], [], [], [], [], [1498], [], [], [], [], [1499], [], [], [], [], [1501], [], [], [], [], [1504], [], [], [], [], []] = true := by decide +kernel
theorem e_k69 : e_Ok 69 := by
  intro pc q hm
  have hm : (pc, q) ∈ (e_m 69).2.2.2.2.drop 0 := hm
  rcases e_Ok_c e_k69_0 hm with h | hm
  · exact h
  have hl : (e_m 69).2.2.2.2.length ≤ 60 := by decide +kernel
  rw [List.drop_eq_nil_of_le (by omega)] at hm
  cases hm
theorem e_j69 : e_OkM 69 := e_OkM_i (p1 := 2019) (p2 := 137) (by rfl) (by decide +kernel)
theorem e_k70_0 : e_okD (e_m 70).1.cls (e_m 70).1.name (e_m 70).2.1 (((e_m 70).2.2.2.2.drop 0).take 60) [[], [], [2020, 2022, 121], [], [], [], [1527], [], [], [], [], [], [], [], [], [], [], [], [], [], [1460], [], [1498], [], [], [], [], [], [1740, 1741], [], [], [], [1467], [], [], [], [], [1527], [], [], [1505], [], [], [], [], [], [], [1528], [], [], [], [], [], [1504], [], [], [], [1740, 1741], [], []] = true := by decide +kernel
theorem e_k70_60 : e_okD (e_m 70).1.cls (e_m 70).1.name (e_m 70).2.1 (((e_m 70).2.2.2.2.drop 60).take 60) [[], [1467], [], [], [], [], [], [], [1527], [], [], [1506], [], [], [], [], [], [], [], [], [1528], []] = true := by decide +kernel
theorem e_k70 : e_Ok 70 := by
  intro pc q hm
  have hm : (pc, q) ∈ (e_m 70).2.2.2.2.drop 0 := hm
  rcases e_Ok_c e_k70_0 hm with h | hm
  · exact h
  rcases e_Ok_c e_k70_60 hm with h | hm
  · exact h
  have hl : (e_m 70).2.2.2.2.length ≤ 120 := by decide +kernel
  rw [List.drop_eq_nil_of_le (by omega)] at hm
  cases hm
theorem e_j70 : e_OkM 70 := e_OkM_i (p1 := 2031) (p2 := 137) (by rfl) (by decide +kernel)
theorem e_k71_0 : e_okD (e_m 71).1.cls (e_m 71).1.name (e_m 71).2.1 (((e_m 71).2.2.2.2.drop 0).take 60) [[], [], [], [2028, 2030, 122], [], [], [1527], [], [], [], [], [1437], [], [1437], [], [], [1528], [], [], []] = true := by decide +kernel
theorem e_k71 : e_Ok 71 := by
  intro pc q hm
  have hm : (pc, q) ∈ (e_m 71).2.2.2.2.drop 0 := hm
  rcases e_Ok_c e_k71_0 hm with h | hm
  · exact h
  have hl : (e_m 71).2.2.2.2.length ≤ 60 := by decide +kernel
  rw [List.drop_eq_nil_of_le (by omega)] at hm
  cases hm
theorem e_j71 : e_OkM 71 := e_OkM_i (p1 := 2027) (p2 := 137) (by rfl) (by decide +kernel)
theorem e_k72_0 : e_okD (e_m 72).1.cls (e_m 72).1.name (e_m 72).2.1 (((e_m 72).2.2.2.2.drop 0).take 60) [[], [], [], [2028, 2030, 122], [], [], [1437], [], [1527], [1943, 1944], [], [], [1528], [], [], [], [], [], [], [], [1528], [], [], [], [], [], [], [], [], [], [1514], [], [], [], [], [], [], [], [1437], [], [], [], [1512], [], [], [], [], [], [], [], [1514], [], [], [], [], [1517], [], [1513], [], []] = true := by decide +kernel
theorem e_k72_60 : e_okD (e_m 72).1.cls (e_m 72).1.name (e_m 72).2.1 (((e_m 72).2.2.2.2.drop 60).take 60) [[], [], [], [], [], []] = true := by decide +kernel
theorem e_k72 : e_Ok 72 := by
  intro pc q hm
  have hm : (pc, q) ∈ (e_m 72).2.2.2.2.drop 0 := hm
  rcases e_Ok_c e_k72_0 hm with h | hm
  · exact h
  rcases e_Ok_c e_k72_60 hm with h | hm
  · exact h
  have hl : (e_m 72).2.2.2.2.length ≤ 120 := by decide +kernel
  rw [List.drop_eq_nil_of_le (by omega)] at hm
  cases hm
theorem e_j72 : e_OkM 72 := e_OkM_i (p1 := 2035) (p2 := 137) (by rfl) (by decide +kernel)
theorem e_k73_0 : e_okD (e_m 73).1.cls (e_m 73).1.name (e_m 73).2.1 (((e_m 73).2.2.2.2.drop 0).take 60) [[], [1444], [], [], [], [], [1456], [], [], [1740, 1741], [], [], [], [], []] = true := by decide +kernel
theorem e_k73 : e_Ok 73 := by
  intro pc q hm
  have hm : (pc, q) ∈ (e_m 73).2.2.2.2.drop 0 := hm
  rcases e_Ok_c e_k73_0 hm with h | hm
  · exact h
  have hl : (e_m 73).2.2.2.2.length ≤ 60 := by decide +kernel
  rw [List.drop_eq_nil_of_le (by omega)] at hm
  cases hm
theorem e_j73 : e_OkM 73 := e_OkM_i (p1 := 2043) (p2 := 137) (by rfl) (by decide +kernel)
theorem e_k74_0 : e_okD (e_m 74).1.cls (e_m 74).1.name (e_m 74).2.1 (((e_m 74).2.2.2.2.drop 0).take 60) [[], [], [1437], [], [], [2040, 2042, 123], [], [], [], [], [1740, 1741], [], [], [], [], [1478], [], [], [], [], [], [], [1486], [], [], [], [], [1487], [], [], [], [], [], [], [], [], [], [], [], [], [1493], [], [1487], [], [], [], []] = true := by decide +kernel
theorem e_k74 : e_Ok 74 := by
  intro pc q hm
  have hm : (pc, q) ∈ (e_m 74).2.2.2.2.drop 0 := hm
  rcases e_Ok_c e_k74_0 hm with h | hm
  · exact h
  have hl : (e_m 74).2.2.2.2.length ≤ 60 := by decide +kernel
  rw [List.drop_eq_nil_of_le (by omega)] at hm
  cases hm
theorem e_j74 : e_OkM 74 := e_OkM_i (p1 := 2039) (p2 := 137) (by rfl) (by decide +kernel)
theorem e_k75_0 : e_okD (e_m 75).1.cls (e_m 75).1.name (e_m 75).2.1 (((e_m 75).2.2.2.2.drop 0).take 60) [[], [], [1437], [], [], [2040, 2042, 123], [], [], [1478], [], [], [1487], [], [], [], [], [], [], [], [1493], [], [1487], [], [], [], [], [], [1740, 1741], [], [], [], [], [1740, 1741], [], [], [], [], [1496], [], [], [1492], [], [1487], [], [], [], [], [], [], [], [], [], []] = true := by decide +kernel
theorem e_k75 : e_Ok 75 := by
  intro pc q hm
  have hm : (pc, q) ∈ (e_m 75).2.2.2.2.drop 0 := hm
  rcases e_Ok_c e_k75_0 hm with h | hm
  · exact h
  have hl : (e_m 75).2.2.2.2.length ≤ 60 := by decide +kernel
  rw [List.drop_eq_nil_of_le (by omega)] at hm
  cases hm
theorem e_j75 : e_OkM 75 := e_OkM_i (p1 := 2047) (p2 := 137) (by rfl) (by decide +kernel)
