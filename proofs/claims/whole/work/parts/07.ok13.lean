set_option maxRecDepth 100000
theorem e_k162_60 : e_okD (e_m 162).1.cls (e_m 162).1.name (e_m 162).2.1 (((e_m 162).2.2.2.2.drop 60).take 60) [[], [], [], [1639], [], [], [], [], [], [], [], [1639], [], [], [], [], [], [], [1978, 1980, 78], [], [1641], [], [], [], [], [], [], [], [], [], [1647], [], [], [], [], [], [], [], [1643], [], [], [], [], [], [], [], [], [], [], [], [], [], [], [], [], [], [], [], [], []] = true := by decide +kernel
theorem e_k162_120 : e_okD (e_m 162).1.cls (e_m 162).1.name (e_m 162).2.1 (((e_m 162).2.2.2.2.drop 120).take 60) [[], [], [], [], [], [], [1978, 1980, 78], [1989, 1991, 80], [], [], [], [], [], [], [], [], [], [], [], [], [], [], [], [], [1989, 1991, 80], [], [], [], [], []] = true := by decide +kernel
theorem e_k162 : e_Ok 162 := by
  intro pc q hm
  have hm : (pc, q) ∈ (e_m 162).2.2.2.2.drop 0 := hm
  rcases e_Ok_c e_k162_0 hm with h | hm
  · exact h
  rcases e_Ok_c e_k162_60 hm with h | hm
  · exact h
  rcases e_Ok_c e_k162_120 hm with h | hm
  · exact h
  have hl : (e_m 162).2.2.2.2.length ≤ 180 := by decide +kernel
  rw [List.drop_eq_nil_of_le (by omega)] at hm
  cases hm
theorem e_j162 : e_OkM 162 := e_OkM_i (p1 := 1988) (p2 := 137) (by rfl) (by decide +kernel)
theorem e_k163_0 : e_okD (e_m 163).1.cls (e_m 163).1.name (e_m 163).2.1 (((e_m 163).2.2.2.2.drop 0).take 60) [[], [], [1636], [], [], [1638], [], [], [1637], [], []] = true := by decide +kernel
theorem e_k163 : e_Ok 163 := by
  intro pc q hm
  have hm : (pc, q) ∈ (e_m 163).2.2.2.2.drop 0 := hm
  rcases e_Ok_c e_k163_0 hm with h | hm
  · exact h
  have hl : (e_m 163).2.2.2.2.length ≤ 60 := by decide +kernel
  rw [List.drop_eq_nil_of_le (by omega)] at hm
  cases hm
theorem e_j163 : e_OkM 163 := e_OkM_i (p1 := 1969) (p2 := 137) (by rfl) (by decide +kernel)
theorem e_k164_0 : e_okD (e_m 164).1.cls (e_m 164).1.name (e_m 164).2.1 (((e_m 164).2.2.2.2.drop 0).take 60) [[], [1923, 1925, 65], [], [], [], [], [], [1709], [1966, 1968, 75], [], [], [], [], [], [1647], [], [], [], [1970, 1972, 76], [], [], [], [], [], [], [1647], [], [], [], [], [], [1653], [], [], [], [], [1655], [], [], [], [], [], [], [], [], [], [], [1985, 1987, 79], [], [], [], [], [], [1966, 1968, 75], [], [], [], [], [], []] = true := by decide +kernel
theorem e_k164_60 : e_okD (e_m 164).1.cls (e_m 164).1.name (e_m 164).2.1 (((e_m 164).2.2.2.2.drop 60).take 60) [[], [], [], [1647], [], [], [], [1993, 1995, 81], [], [], [], [], [1653], [], [], [], [], [1657], [], [], [], [], [], [], [], [], [], [], [], [2029, 2031, 90], [], [], [], [], [], [1966, 1968, 75], [], [], [], [], [], [], []] = true := by decide +kernel
theorem e_k164 : e_Ok 164 := by
  intro pc q hm
  have hm : (pc, q) ∈ (e_m 164).2.2.2.2.drop 0 := hm
  rcases e_Ok_c e_k164_0 hm with h | hm
  · exact h
  rcases e_Ok_c e_k164_60 hm with h | hm
  · exact h
  have hl : (e_m 164).2.2.2.2.length ≤ 120 := by decide +kernel
  rw [List.drop_eq_nil_of_le (by omega)] at hm
  cases hm
theorem e_j164 : e_OkM 164 := e_OkM_i (p1 := 1922) (p2 := 137) (by rfl) (by decide +kernel)
theorem e_k165_0 : e_okD (e_m 165).1.cls (e_m 165).1.name (e_m 165).2.1 (((e_m 165).2.2.2.2.drop 0).take 60) [[], [], [1629], [1632], [], [], [], [], [1629], [], [], [1631], [], [], [1630], [], [], [], [], [], [], [], [1629], [], [1919, 1921, 64], [], [], [], [], [], [1636], [], [], [1637], [], [], [1638], [], [], [], [], [1632], [], [], [1633], [], [], [1631], [], [], [], [], [], [], [], [1632], [1634], [], [], [1635]] = true := by decide +kernel
theorem e_k165_60 : e_okD (e_m 165).1.cls (e_m 165).1.name (e_m 165).2.1 (((e_m 165).2.2.2.2.drop 60).take 60) [[], [], [1669], [], [], [1628], [], [1647], [], [], [1635], [], [], [2044, 2046, 93], [], [], [2048, 2050, 94], []] = true := by decide +kernel
theorem e_k165 : e_Ok 165 := by
  intro pc q hm
  have hm : (pc, q) ∈ (e_m 165).2.2.2.2.drop 0 := hm
  rcases e_Ok_c e_k165_0 hm with h | hm
  · exact h
  rcases e_Ok_c e_k165_60 hm with h | hm
  · exact h
  have hl : (e_m 165).2.2.2.2.length ≤ 120 := by decide +kernel
  rw [List.drop_eq_nil_of_le (by omega)] at hm
  cases hm
theorem e_j165 : e_OkM 165 := e_OkM_i (p1 := 1918) (p2 := 137) (by rfl) (by decide +kernel)
theorem e_k166_0 : e_okD (e_m 166).1.cls (e_m 166).1.name (e_m 166).2.1 (((e_m 166).2.2.2.2.drop 0).take 60) [[], [1636], [], [], [1638], [], [], [1637], [], [], [], [1634], [1632], [], [], [], [], [1634], [], [], [1631], [], [], [1633], [], [], [], [], [], [], [1919, 1921, 64], [], [], [], [1636], [], [], [1638], [], [], [1637], []] = true := by decide +kernel
theorem e_k166 : e_Ok 166 := by
  intro pc q hm
  have hm : (pc, q) ∈ (e_m 166).2.2.2.2.drop 0 := hm
  rcases e_Ok_c e_k166_0 hm with h | hm
  · exact h
  have hl : (e_m 166).2.2.2.2.length ≤ 60 := by decide +kernel
  rw [List.drop_eq_nil_of_le (by omega)] at hm
  cases hm
theorem e_j166 : e_OkM 166 := e_OkM_i (p1 := 2047) (p2 := 137) (by rfl) (by decide +kernel)
theorem e_k167_0 : e_okD (e_m 167).1.cls (e_m 167).1.name (e_m 167).2.1 (((e_m 167).2.2.2.2.drop 0).take 60) [[], [], [1628], [], [], [], [1636], [], [], [], [], [], [1637], [], [], [], [], [], [1638], [], [], []] = true := by decide +kernel
theorem e_k167 : e_Ok 167 := by
  intro pc q hm
  have hm : (pc, q) ∈ (e_m 167).2.2.2.2.drop 0 := hm
  rcases e_Ok_c e_k167_0 hm with h | hm
  · exact h
  have hl : (e_m 167).2.2.2.2.length ≤ 60 := by decide +kernel
  rw [List.drop_eq_nil_of_le (by omega)] at hm
  cases hm
theorem e_j167 : e_OkM 167 := e_OkM_i (p1 := 2055) (p2 := 137) (by rfl) (by decide +kernel)
theorem e_k168_0 : e_okD (e_m 168).1.cls (e_m 168).1.name (e_m 168).2.1 (((e_m 168).2.2.2.2.drop 0).take 60) [[], [], [], [], [], [1656], [], [], [], [], [], [], [], [], [1656], [], [], [], [], [], [], [], [], [], [], [1640], [], [], [], [], [], []] = true := by decide +kernel
theorem e_k168 : e_Ok 168 := by
  intro pc q hm
  have hm : (pc, q) ∈ (e_m 168).2.2.2.2.drop 0 := hm
  rcases e_Ok_c e_k168_0 hm with h | hm
  · exact h
  have hl : (e_m 168).2.2.2.2.length ≤ 60 := by decide +kernel
  rw [List.drop_eq_nil_of_le (by omega)] at hm
  cases hm
theorem e_j168 : e_OkM 168 := e_OkM_i (p1 := 2043) (p2 := 137) (by rfl) (by decide +kernel)
theorem e_k169_0 : e_okD (e_m 169).1.cls (e_m 169).1.name (e_m 169).2.1 (((e_m 169).2.2.2.2.drop 0).take 60) [[], [], [], [], [], [], [], [], [], [], [], [], [], [], [], [], [], [], [], [], [], [], [], [], [], [], [], [], [], [], [], [], [], [], [], [], [], [], [], [], [], [], [], [], [], [], [], [], [], [], [], [], [], [], [1958, 1960, 73], [], [], [], [], []] = true := by decide +kernel
theorem e_k169_60 : e_okD (e_m 169).1.cls (e_m 169).1.name (e_m 169).2.1 (((e_m 169).2.2.2.2.drop 60).take 60) [[], [1640], [], [], [], [], [], []] = true := by decide +kernel
theorem e_k169 : e_Ok 169 := by
  intro pc q hm
  have hm : (pc, q) ∈ (e_m 169).2.2.2.2.drop 0 := hm
  rcases e_Ok_c e_k169_0 hm with h | hm
  · exact h
  rcases e_Ok_c e_k169_60 hm with h | hm
  · exact h
  have hl : (e_m 169).2.2.2.2.length ≤ 120 := by decide +kernel
  rw [List.drop_eq_nil_of_le (by omega)] at hm
  cases hm
theorem e_j169 : e_OkM 169 := e_OkM_i (p1 := 2004) (p2 := 137) (by rfl) (by decide +kernel)
theorem e_k170_0 : e_okD (e_m 170).1.cls (e_m 170).1.name (e_m 170).2.1 (((e_m 170).2.2.2.2.drop 0).take 60) [[], [], [], [], [], [], [], [1657], [], [], [], [], [], [], [], [], [], [1657], [], [], [], [], [], [1657], [], [], [], [1660], [], [], [1657], [], [], [], [], [], [], [1657], [], [], [], [], [], [], [], [], [], [], [], [], [], [], [], [], [1659], [], [], [], [], []] = true := by decide +kernel
theorem e_k170_60 : e_okD (e_m 170).1.cls (e_m 170).1.name (e_m 170).2.1 (((e_m 170).2.2.2.2.drop 60).take 60) [[1658], [], [], [], [], [], [], [], [1659], [], [], [2001, 2003, 83], [], [], [], [], [1660], [], [], [], [], [], [], [], [], [1658], [], [], [], [], [], [], [], [], [], [], [], [], [1658], [], [], [], [], [], [], [], [], [], [], [1657], [], [], [1660], [], [], []] = true := by decide +kernel
theorem e_k170 : e_Ok 170 := by
  intro pc q hm
  have hm : (pc, q) ∈ (e_m 170).2.2.2.2.drop 0 := hm
  rcases e_Ok_c e_k170_0 hm with h | hm
  · exact h
  rcases e_Ok_c e_k170_60 hm with h | hm
  · exact h
  have hl : (e_m 170).2.2.2.2.length ≤ 120 := by decide +kernel
  rw [List.drop_eq_nil_of_le (by omega)] at hm
  cases hm
theorem e_j170 : e_OkM 170 := e_OkM_i (p1 := 2000) (p2 := 137) (by rfl) (by decide +kernel)
