set_option maxRecDepth 100000
theorem e_k128_0 : e_okD (e_m 128).1.cls (e_m 128).1.name (e_m 128).2.1 (((e_m 128).2.2.2.2.drop 0).take 60) [[], [629], [], [], [], [], [630], [556], [], [], [], [], [], [], [], [475], [], [], [472], [], [], [], [], [], [], [], [], [], [628], [705, 706, 707], [], [628], [], [630], [], [635], [713, 714, 715], [], [628], [396], [], [], [], [], [1103, 1104, 1105], [], []] = true := by decide +kernel
theorem e_k128 : e_Ok 128 := by
  intro pc q hm
  have hm : (pc, q) ∈ (e_m 128).2.2.2.2.drop 0 := hm
  rcases e_Ok_c e_k128_0 hm with h | hm
  · exact h
  have hl : (e_m 128).2.2.2.2.length ≤ 60 := by decide +kernel
  rw [List.drop_eq_nil_of_le (by omega)] at hm
  cases hm
theorem e_j128 : e_OkM 128 := e_OkM_i (p1 := 704) (p2 := 125) (by rfl) (by decide +kernel)
theorem e_k129_0 : e_okD (e_m 129).1.cls (e_m 129).1.name (e_m 129).2.1 (((e_m 129).2.2.2.2.drop 0).take 60) [[], [], [], [], [], [], [], [], [], [], [], [], [628], [408], [], [], [], [], [], [], [], [1365], [], [628], [416], [], [], [], [], [], [], [], [], [], [], [628], [], [], [1382, 843, 138, 844], [1383, 1384, 1385], []] = true := by decide +kernel
theorem e_k129 : e_Ok 129 := by
  intro pc q hm
  have hm : (pc, q) ∈ (e_m 129).2.2.2.2.drop 0 := hm
  rcases e_Ok_c e_k129_0 hm with h | hm
  · exact h
  have hl : (e_m 129).2.2.2.2.length ≤ 60 := by decide +kernel
  rw [List.drop_eq_nil_of_le (by omega)] at hm
  cases hm
theorem e_j129 : e_OkM 129 := e_OkM_i (p1 := 1347) (p2 := 125) (by rfl) (by decide +kernel)
theorem e_k130_0 : e_okD (e_m 130).1.cls (e_m 130).1.name (e_m 130).2.1 (((e_m 130).2.2.2.2.drop 0).take 60) [[], [628], [408], []] = true := by decide +kernel
theorem e_k130 : e_Ok 130 := by
  intro pc q hm
  have hm : (pc, q) ∈ (e_m 130).2.2.2.2.drop 0 := hm
  rcases e_Ok_c e_k130_0 hm with h | hm
  · exact h
  have hl : (e_m 130).2.2.2.2.length ≤ 60 := by decide +kernel
  rw [List.drop_eq_nil_of_le (by omega)] at hm
  cases hm
theorem e_j130 : e_OkM 130 := e_OkM_i (p1 := 1110) (p2 := 125) (by rfl) (by decide +kernel)
theorem e_k131_0 : e_okD (e_m 131).1.cls (e_m 131).1.name (e_m 131).2.1 (((e_m 131).2.2.2.2.drop 0).take 60) [[], [], [], [628], [410], [], [], [628], [412], [], [], []] = true := by decide +kernel
theorem e_k131 : e_Ok 131 := by
  intro pc q hm
  have hm : (pc, q) ∈ (e_m 131).2.2.2.2.drop 0 := hm
  rcases e_Ok_c e_k131_0 hm with h | hm
  · exact h
  have hl : (e_m 131).2.2.2.2.length ≤ 60 := by decide +kernel
  rw [List.drop_eq_nil_of_le (by omega)] at hm
  cases hm
theorem e_j131 : e_OkM 131 := e_OkM_i (p1 := 1114) (p2 := 125) (by rfl) (by decide +kernel)
theorem e_k132_0 : e_okD (e_m 132).1.cls (e_m 132).1.name (e_m 132).2.1 (((e_m 132).2.2.2.2.drop 0).take 60) [[], [], [], [], [628], [406], [], [], [], [], [], [], [], [], [], [], [628], [404], [], [], []] = true := by decide +kernel
theorem e_k132 : e_Ok 132 := by
  intro pc q hm
  have hm : (pc, q) ∈ (e_m 132).2.2.2.2.drop 0 := hm
  rcases e_Ok_c e_k132_0 hm with h | hm
  · exact h
  have hl : (e_m 132).2.2.2.2.length ≤ 60 := by decide +kernel
  rw [List.drop_eq_nil_of_le (by omega)] at hm
  cases hm
theorem e_j132 : e_OkM 132 := e_OkM_i (p1 := 1565) (p2 := 125) (by rfl) (by decide +kernel)
theorem e_k133_0 : e_okD (e_m 133).1.cls (e_m 133).1.name (e_m 133).2.1 (((e_m 133).2.2.2.2.drop 0).take 60) [[], [628], [396], [], [], [], [1119, 1120, 1121], [], [], [], [], [], [], [], [], [], [254], [], [], [], [], [257], [], [], [], [], [260], [], [], [], [], [267], [], [], [], [], []] = true := by decide +kernel
theorem e_k133 : e_Ok 133 := by
  intro pc q hm
  have hm : (pc, q) ∈ (e_m 133).2.2.2.2.drop 0 := hm
  rcases e_Ok_c e_k133_0 hm with h | hm
  · exact h
  have hl : (e_m 133).2.2.2.2.length ≤ 60 := by decide +kernel
  rw [List.drop_eq_nil_of_le (by omega)] at hm
  cases hm
theorem e_j133 : e_OkM 133 := e_OkM_i (p1 := 1118) (p2 := 125) (by rfl) (by decide +kernel)
theorem e_k134_0 : e_okD (e_m 134).1.cls (e_m 134).1.name (e_m 134).2.1 (((e_m 134).2.2.2.2.drop 0).take 60) [[], [628], [396], [], [1119, 1120, 1121], [], [], [], [], [1589, 1591, 63], [], [], [], [], [], [], [], [], [], [], [628], [396], [271], [], [], [], [], [], [], [], [], [628], [], [], [628], [396], [], [630], [], [], [1593, 1594, 1595], [], [], [], [], [], [1600, 1601, 1602], []] = true := by decide +kernel
theorem e_k134 : e_Ok 134 := by
  intro pc q hm
  have hm : (pc, q) ∈ (e_m 134).2.2.2.2.drop 0 := hm
  rcases e_Ok_c e_k134_0 hm with h | hm
  · exact h
  have hl : (e_m 134).2.2.2.2.length ≤ 60 := by decide +kernel
  rw [List.drop_eq_nil_of_le (by omega)] at hm
  cases hm
theorem e_j134 : e_OkM 134 := e_OkM_i (p1 := 1588) (p2 := 125) (by rfl) (by decide +kernel)
theorem e_k135_0 : e_okD (e_m 135).1.cls (e_m 135).1.name (e_m 135).2.1 (((e_m 135).2.2.2.2.drop 0).take 60) [[], [628], [396], [], [1119, 1120, 1121], [], [], [], [], [1589, 1591, 63], [], [], [], [], [], [628], [396], [], [630], [], [], [1593, 1594, 1595], [], [], [], [], [], [], [], [], [628], [396], [271], [], [], [], [], [], [], [], [], [], [], [], [], [], [], [], [628], [398], [], [1617, 1503, 1504], [], [], [628], [398], [], [630], [], [1618, 1473, 1474]] = true := by decide +kernel
theorem e_k135_60 : e_okD (e_m 135).1.cls (e_m 135).1.name (e_m 135).2.1 (((e_m 135).2.2.2.2.drop 60).take 60) [[], [], [], [], [], [], [], [], [], [], [], [], [], [], [], [], [], [1382, 843, 138, 844], [], [], [], [], [], [], [], [628], [398], [], [], [], [], [1620, 1495, 1496], [], [], [628], [], [], [], [], [], [630], [541], [], [], [], [], [], [], [], [], [], [], [], [], [], [1600, 1601, 1602], []] = true := by decide +kernel
theorem e_k135 : e_Ok 135 := by
  intro pc q hm
  have hm : (pc, q) ∈ (e_m 135).2.2.2.2.drop 0 := hm
  rcases e_Ok_c e_k135_0 hm with h | hm
  · exact h
  rcases e_Ok_c e_k135_60 hm with h | hm
  · exact h
  have hl : (e_m 135).2.2.2.2.length ≤ 120 := by decide +kernel
  rw [List.drop_eq_nil_of_le (by omega)] at hm
  cases hm
theorem e_j135 : e_OkM 135 := e_OkM_i (p1 := 1614) (p2 := 125) (by rfl) (by decide +kernel)
theorem e_k136_0 : e_okD (e_m 136).1.cls (e_m 136).1.name (e_m 136).2.1 (((e_m 136).2.2.2.2.drop 0).take 60) [[], [], [], [], [], [], [628], [396], [], [], [], [630], [556], [], [254], [], [], [], [480], [], [267], [], [], [675, 676], [], [], [], [], [], [], [630], [], [], [1593, 1594, 1595], [], [], [], [], []] = true := by decide +kernel
theorem e_k136 : e_Ok 136 := by
  intro pc q hm
  have hm : (pc, q) ∈ (e_m 136).2.2.2.2.drop 0 := hm
  rcases e_Ok_c e_k136_0 hm with h | hm
  · exact h
  have hl : (e_m 136).2.2.2.2.length ≤ 60 := by decide +kernel
  rw [List.drop_eq_nil_of_le (by omega)] at hm
  cases hm
theorem e_j136 : e_OkM 136 := e_OkM_i (p1 := 1592) (p2 := 125) (by rfl) (by decide +kernel)
theorem e_k137_0 : e_okD (e_m 137).1.cls (e_m 137).1.name (e_m 137).2.1 (((e_m 137).2.2.2.2.drop 0).take 60) [[], [629], [], [], [], [], [], [630], [551], [], [], [], [], [628], [400], [], [1127, 1128, 1129], [], [], [], [], [628], [400], [333], [], [], [], [], [], [], [], [], [], [], [], [], [], [], [1078], [], [], []] = true := by decide +kernel
theorem e_k137 : e_Ok 137 := by
  intro pc q hm
  have hm : (pc, q) ∈ (e_m 137).2.2.2.2.drop 0 := hm
  rcases e_Ok_c e_k137_0 hm with h | hm
  · exact h
  have hl : (e_m 137).2.2.2.2.length ≤ 60 := by decide +kernel
  rw [List.drop_eq_nil_of_le (by omega)] at hm
  cases hm
theorem e_j137 : e_OkM 137 := e_OkM_i (p1 := 1126) (p2 := 125) (by rfl) (by decide +kernel)
theorem e_k138_0 : e_okD (e_m 138).1.cls (e_m 138).1.name (e_m 138).2.1 (((e_m 138).2.2.2.2.drop 0).take 60) [[], [629], [], [], [], [], [], [630], [551], [], [], [], [], [], [], [], [], [], [628], [400], [], [1127, 1128, 1129], [], [], [], [], [], [], [], [1078], [], [], [], [], [1083], [], [], [], [], [], [], []] = true := by decide +kernel
theorem e_k138 : e_Ok 138 := by
  intro pc q hm
  have hm : (pc, q) ∈ (e_m 138).2.2.2.2.drop 0 := hm
  rcases e_Ok_c e_k138_0 hm with h | hm
  · exact h
  have hl : (e_m 138).2.2.2.2.length ≤ 60 := by decide +kernel
  rw [List.drop_eq_nil_of_le (by omega)] at hm
  cases hm
theorem e_j138 : e_OkM 138 := e_OkM_i (p1 := 1138) (p2 := 125) (by rfl) (by decide +kernel)
theorem e_k139_0 : e_okD (e_m 139).1.cls (e_m 139).1.name (e_m 139).2.1 (((e_m 139).2.2.2.2.drop 0).take 60) [[], [628], [408], [], [], [630], [], [], [671, 672, 673], [], [], [], [], [630], [556], [], [], [489], [], [], [], [], [630], [575], [], [], [], [], [], [], [], [], [], [630], [515], [], [], [], [], [], [], [], [630], [526], [], [], [], [], [], [], [], [], [], [628], [400], [336], [], [], [], []] = true := by decide +kernel
theorem e_k139_60 : e_okD (e_m 139).1.cls (e_m 139).1.name (e_m 139).2.1 (((e_m 139).2.2.2.2.drop 60).take 60) [[], [], []] = true := by decide +kernel
theorem e_k139 : e_Ok 139 := by
  intro pc q hm
  have hm : (pc, q) ∈ (e_m 139).2.2.2.2.drop 0 := hm
  rcases e_Ok_c e_k139_0 hm with h | hm
  · exact h
  rcases e_Ok_c e_k139_60 hm with h | hm
  · exact h
  have hl : (e_m 139).2.2.2.2.length ≤ 120 := by decide +kernel
  rw [List.drop_eq_nil_of_le (by omega)] at hm
  cases hm
theorem e_j139 : e_OkM 139 := e_OkM_i (p1 := 1142) (p2 := 125) (by rfl) (by decide +kernel)
theorem e_k140_0 : e_okD (e_m 140).1.cls (e_m 140).1.name (e_m 140).2.1 (((e_m 140).2.2.2.2.drop 0).take 60) [[], [628], [402], [], [], [], [], [], [380], [], [], [], [], [], [], [], [], [], [382], [], [], [], [], [], [], []] = true := by decide +kernel
theorem e_k140 : e_Ok 140 := by
  intro pc q hm
  have hm : (pc, q) ∈ (e_m 140).2.2.2.2.drop 0 := hm
  rcases e_Ok_c e_k140_0 hm with h | hm
  · exact h
  have hl : (e_m 140).2.2.2.2.length ≤ 60 := by decide +kernel
  rw [List.drop_eq_nil_of_le (by omega)] at hm
  cases hm
theorem e_j140 : e_OkM 140 := e_OkM_i (p1 := 1146) (p2 := 125) (by rfl) (by decide +kernel)
