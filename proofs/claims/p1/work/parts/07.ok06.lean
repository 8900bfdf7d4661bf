set_option maxRecDepth 100000
theorem e_k76_0 : e_okD (e_m 76).1.cls (e_m 76).1.name (e_m 76).2.1 (((e_m 76).2.2.2.2.drop 0).take 60) [[], [], [1437], [], [], [2040, 2042, 123], [], [], [1478], [], [], [], [], [1462], [], [], [], [], [1740, 1741], [], [], [1464], [], [], [], [], [], [], [], [], [], [], [], [], [], [], [], [], [], [], [], [], [], [], [], [], [], [1448], [], [], [1740, 1741], [], [], [], [], [], [], [], [], []] = true := by decide +kernel
theorem e_k76_60 : e_okD (e_m 76).1.cls (e_m 76).1.name (e_m 76).2.1 (((e_m 76).2.2.2.2.drop 60).take 60) [[], [], [], [], [], []] = true := by decide +kernel
theorem e_k76 : e_Ok 76 := by
  intro pc q hm
  have hm : (pc, q) ∈ (e_m 76).2.2.2.2.drop 0 := hm
  rcases e_Ok_c e_k76_0 hm with h | hm
  · exact h
  rcases e_Ok_c e_k76_60 hm with h | hm
  · exact h
  have hl : (e_m 76).2.2.2.2.length ≤ 120 := by decide +kernel
  rw [List.drop_eq_nil_of_le (by omega)] at hm
  cases hm
theorem e_j76 : e_OkM 76 := e_OkM_i (p1 := 2051) (p2 := 137) (by rfl) (by decide +kernel)
theorem e_k77_0 : e_okD (e_m 77).1.cls (e_m 77).1.name (e_m 77).2.1 (((e_m 77).2.2.2.2.drop 0).take 60) [[], [], [1437], [], [1478], [], [], [], [], [1489], [], [], [1740, 1741], [], [], [], [], [1740, 1741], [], [], [], [], [1490], [], [], [], [], [], [], []] = true := by decide +kernel
theorem e_k77 : e_Ok 77 := by
  intro pc q hm
  have hm : (pc, q) ∈ (e_m 77).2.2.2.2.drop 0 := hm
  rcases e_Ok_c e_k77_0 hm with h | hm
  · exact h
  have hl : (e_m 77).2.2.2.2.length ≤ 60 := by decide +kernel
  rw [List.drop_eq_nil_of_le (by omega)] at hm
  cases hm
theorem e_j77 : e_OkM 77 := e_OkM_i (p1 := 2055) (p2 := 137) (by rfl) (by decide +kernel)
theorem e_k78_0 : e_okD (e_m 78).1.cls (e_m 78).1.name (e_m 78).2.1 (((e_m 78).2.2.2.2.drop 0).take 60) [[], [], [1437], [], [1478], [], [], [], [], [], [], [], [], [], [], [1481], [], [], [], [], [1482], [], [], [], [], [1484], [], [], [], [], [], [], [1497], [], [], [], [], [], [], [1489], [], [], [], [], [], [], [1508], [], [], [], [], [], [], [1509], [], [], [], [], [1483], []] = true := by decide +kernel
theorem e_k78_60 : e_okD (e_m 78).1.cls (e_m 78).1.name (e_m 78).2.1 (((e_m 78).2.2.2.2.drop 60).take 60) [[], [1476], [], [], [], [], [1507], [], [], [], [], []] = true := by decide +kernel
theorem e_k78 : e_Ok 78 := by
  intro pc q hm
  have hm : (pc, q) ∈ (e_m 78).2.2.2.2.drop 0 := hm
  rcases e_Ok_c e_k78_0 hm with h | hm
  · exact h
  rcases e_Ok_c e_k78_60 hm with h | hm
  · exact h
  have hl : (e_m 78).2.2.2.2.length ≤ 120 := by decide +kernel
  rw [List.drop_eq_nil_of_le (by omega)] at hm
  cases hm
theorem e_j78 : e_OkM 78 := e_OkM_i (p1 := 2059) (p2 := 137) (by rfl) (by decide +kernel)
