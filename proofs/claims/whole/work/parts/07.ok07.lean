set_option maxRecDepth 100000
theorem e_k94_0 : e_okD (e_m 94).1.cls (e_m 94).1.name (e_m 94).2.1 (((e_m 94).2.2.2.2.drop 0).take 60) [[], [342], [], [], [], [], [341], [], [], [], [], [], [], [341], [], [], [], [], [], [], [341], [], [], [], [], [], [], [341], [], [], [], [], [], [], [341], [], [], [], [], [], [], [], [342], [], [], [342], [], [], [343], [], [344], [558], [], [], [497], [], [343], [], []] = true := by decide +kernel
theorem e_k94 : e_Ok 94 := by
  intro pc q hm
  have hm : (pc, q) ∈ (e_m 94).2.2.2.2.drop 0 := hm
  rcases e_Ok_c e_k94_0 hm with h | hm
  · exact h
  have hl : (e_m 94).2.2.2.2.length ≤ 60 := by decide +kernel
  rw [List.drop_eq_nil_of_le (by omega)] at hm
  cases hm
theorem e_j94 : e_OkM 94 := e_OkM_i (p1 := 1062) (p2 := 132) (by rfl) (by decide +kernel)
theorem e_k95_0 : e_okD (e_m 95).1.cls (e_m 95).1.name (e_m 95).2.1 (((e_m 95).2.2.2.2.drop 0).take 60) [[], [203, 162, 163], [], [], [234], [208], []] = true := by decide +kernel
theorem e_k95 : e_Ok 95 := by
  intro pc q hm
  have hm : (pc, q) ∈ (e_m 95).2.2.2.2.drop 0 := hm
  rcases e_Ok_c e_k95_0 hm with h | hm
  · exact h
  have hl : (e_m 95).2.2.2.2.length ≤ 60 := by decide +kernel
  rw [List.drop_eq_nil_of_le (by omega)] at hm
  cases hm
theorem e_j95 : e_OkM 95 := e_OkM_i (p1 := 202) (p2 := 128) (by rfl) (by decide +kernel)
theorem e_k96_0 : e_okD (e_m 96).1.cls (e_m 96).1.name (e_m 96).2.1 (((e_m 96).2.2.2.2.drop 0).take 60) [[], [], [209], [], [], [], [], [209], [548], [], [], [], [209], [554], [], [], [210], [], [1239, 1241, 22], [], [], [], [], [210], [494], [], [], [209], [568], [], [210], [486], [], [], [], [], [], [], [210], [486], [], [], [1303, 1305, 35], [], [], [], [204], [], [], [206], [], [], [], [], [], [], [], []] = true := by decide +kernel
theorem e_k96 : e_Ok 96 := by
  intro pc q hm
  have hm : (pc, q) ∈ (e_m 96).2.2.2.2.drop 0 := hm
  rcases e_Ok_c e_k96_0 hm with h | hm
  · exact h
  have hl : (e_m 96).2.2.2.2.length ≤ 60 := by decide +kernel
  rw [List.drop_eq_nil_of_le (by omega)] at hm
  cases hm
theorem e_j96 : e_OkM 96 := e_OkM_i (p1 := 1238) (p2 := 128) (by rfl) (by decide +kernel)
theorem e_k97_0 : e_okD (e_m 97).1.cls (e_m 97).1.name (e_m 97).2.1 (((e_m 97).2.2.2.2.drop 0).take 60) [[], [210], [486], [], [], [], [210], [494], [], [], [], [209], [579], [], [], [], [1243, 722], [], [208], [], [], [], [1243, 722], [], [], [213], [], [], [], [], [210], [473], [], [], [], [213], [], [210], [470], [], [], [], [], [], [], [], [], [213], [], [], [], [], [214], [], [], [212], [], [], [1244, 1246, 23], []] = true := by decide +kernel
theorem e_k97_60 : e_okD (e_m 97).1.cls (e_m 97).1.name (e_m 97).2.1 (((e_m 97).2.2.2.2.drop 60).take 60) [[], [], [211], [], [], [1264], [], [], [], [211], [], [], [], [], [], [], [208], [], [], [], [], [208], [], [], [], [], [], [1265, 1267, 27], [], [], [], [], []] = true := by decide +kernel
theorem e_k97 : e_Ok 97 := by
  intro pc q hm
  have hm : (pc, q) ∈ (e_m 97).2.2.2.2.drop 0 := hm
  rcases e_Ok_c e_k97_0 hm with h | hm
  · exact h
  rcases e_Ok_c e_k97_60 hm with h | hm
  · exact h
  have hl : (e_m 97).2.2.2.2.length ≤ 120 := by decide +kernel
  rw [List.drop_eq_nil_of_le (by omega)] at hm
  cases hm
theorem e_j97 : e_OkM 97 := e_OkM_i (p1 := 1242) (p2 := 128) (by rfl) (by decide +kernel)
theorem e_k98_0 : e_okD (e_m 98).1.cls (e_m 98).1.name (e_m 98).2.1 (((e_m 98).2.2.2.2.drop 0).take 60) [[], [209], [518], [], [], [], [], [], [], [1269, 1271, 28], [], [], [], [], [], [], [], [], [], [], [], [209], [518], [], [], [], [], [], [], [], [], [], [], [], [], [210], [486], [], [209], [518], [], [], [], [], [], [], [], [1244, 1246, 23], [], [], [], [], [], [], [], [], [], [], [], [210]] = true := by decide +kernel
theorem e_k98_60 : e_okD (e_m 98).1.cls (e_m 98).1.name (e_m 98).2.1 (((e_m 98).2.2.2.2.drop 60).take 60) [[486], [], [209], [518], [], [], [], [], [], [1244, 1246, 23], [], [], [], [], [], [], [209], [568], [], [], [], [1244, 1246, 23], []] = true := by decide +kernel
theorem e_k98 : e_Ok 98 := by
  intro pc q hm
  have hm : (pc, q) ∈ (e_m 98).2.2.2.2.drop 0 := hm
  rcases e_Ok_c e_k98_0 hm with h | hm
  · exact h
  rcases e_Ok_c e_k98_60 hm with h | hm
  · exact h
  have hl : (e_m 98).2.2.2.2.length ≤ 120 := by decide +kernel
  rw [List.drop_eq_nil_of_le (by omega)] at hm
  cases hm
theorem e_j98 : e_OkM 98 := e_OkM_i (p1 := 1268) (p2 := 128) (by rfl) (by decide +kernel)
theorem e_k99_0 : e_okD (e_m 99).1.cls (e_m 99).1.name (e_m 99).2.1 (((e_m 99).2.2.2.2.drop 0).take 60) [[], [209], [579], [], [], [], [], [], [], [1273, 1275, 29], [], [], [], [], [1279, 1281, 30], [], [], [], [209], [582], [], [], [213], [], [], [209], [585], [], [], [214], [], [], [], [], [], [], [], [], [], [210], [484], [], [], [], [212], [], [], [], [212], [], [], [], [214], [], [], [], [1256, 683], [], [], []] = true := by decide +kernel
theorem e_k99_60 : e_okD (e_m 99).1.cls (e_m 99).1.name (e_m 99).2.1 (((e_m 99).2.2.2.2.drop 60).take 60) [[], [], [], [], [214], [], [], [], [1256, 683], [], [], [], [], [], [], [], [], [], [1289, 1291, 32], [], [], [], [], [], [], [], [213], [], [209], [518], [], [], [], [], [1256, 683], [1295, 1297, 33], [], [], [], [], [], [], [209], [518], [], [], [], [], [], [], [], [], [213], [1293], [], [], [1294], [], [], []] = true := by decide +kernel
theorem e_k99_120 : e_okD (e_m 99).1.cls (e_m 99).1.name (e_m 99).2.1 (((e_m 99).2.2.2.2.drop 120).take 60) [[], [], [], [], [213], [], [], [], [], [], [], [1295, 1297, 33], [], [], [1295, 1297, 33], [], [], [], [], [], [], [1295, 1297, 33], [], [], [1295, 1297, 33], [], [], [], [], [], [], [], [], [1299, 1301, 34], [1295, 1297, 33], []] = true := by decide +kernel
theorem e_k99 : e_Ok 99 := by
  intro pc q hm
  have hm : (pc, q) ∈ (e_m 99).2.2.2.2.drop 0 := hm
  rcases e_Ok_c e_k99_0 hm with h | hm
  · exact h
  rcases e_Ok_c e_k99_60 hm with h | hm
  · exact h
  rcases e_Ok_c e_k99_120 hm with h | hm
  · exact h
  have hl : (e_m 99).2.2.2.2.length ≤ 180 := by decide +kernel
  rw [List.drop_eq_nil_of_le (by omega)] at hm
  cases hm
theorem e_j99 : e_OkM 99 := e_OkM_i (p1 := 1272) (p2 := 128) (by rfl) (by decide +kernel)
theorem e_k100_0 : e_okD (e_m 100).1.cls (e_m 100).1.name (e_m 100).2.1 (((e_m 100).2.2.2.2.drop 0).take 60) [[], [], [212], [], [], [212], [], [], [214], [1293], [], [], [212], [], [], [1294], [], [], [214], []] = true := by decide +kernel
theorem e_k100 : e_Ok 100 := by
  intro pc q hm
  have hm : (pc, q) ∈ (e_m 100).2.2.2.2.drop 0 := hm
  rcases e_Ok_c e_k100_0 hm with h | hm
  · exact h
  have hl : (e_m 100).2.2.2.2.length ≤ 60 := by decide +kernel
  rw [List.drop_eq_nil_of_le (by omega)] at hm
  cases hm
theorem e_j100 : e_OkM 100 := e_OkM_i (p1 := 1292) (p2 := 128) (by rfl) (by decide +kernel)
theorem e_k101_0 : e_okD (e_m 101).1.cls (e_m 101).1.name (e_m 101).2.1 (((e_m 101).2.2.2.2.drop 0).take 60) [[], [], [214], [], [], [], [], [212], [], [], [], [214], [], [], [212], [], [], [212], []] = true := by decide +kernel
theorem e_k101 : e_Ok 101 := by
  intro pc q hm
  have hm : (pc, q) ∈ (e_m 101).2.2.2.2.drop 0 := hm
  rcases e_Ok_c e_k101_0 hm with h | hm
  · exact h
  have hl : (e_m 101).2.2.2.2.length ≤ 60 := by decide +kernel
  rw [List.drop_eq_nil_of_le (by omega)] at hm
  cases hm
theorem e_j101 : e_OkM 101 := e_OkM_i (p1 := 1298) (p2 := 128) (by rfl) (by decide +kernel)
theorem e_k102_0 : e_okD (e_m 102).1.cls (e_m 102).1.name (e_m 102).2.1 (((e_m 102).2.2.2.2.drop 0).take 60) [[], [], [], [], [209], [554], [], [209], [518], [], [], [], [], [], [473], [], [], [], [], [], [209], [546], [], [209], [518], [], [], [], [], [], [473], [], [], [], [], [], [], []] = true := by decide +kernel
theorem e_k102 : e_Ok 102 := by
  intro pc q hm
  have hm : (pc, q) ∈ (e_m 102).2.2.2.2.drop 0 := hm
  rcases e_Ok_c e_k102_0 hm with h | hm
  · exact h
  have hl : (e_m 102).2.2.2.2.length ≤ 60 := by decide +kernel
  rw [List.drop_eq_nil_of_le (by omega)] at hm
  cases hm
theorem e_j102 : e_OkM 102 := e_OkM_i (p1 := 1276) (p2 := 128) (by rfl) (by decide +kernel)
theorem e_k103_0 : e_okD (e_m 103).1.cls (e_m 103).1.name (e_m 103).2.1 (((e_m 103).2.2.2.2.drop 0).take 60) [[], [], [], [], [], [], [], [], [], [1283, 1285, 31], [], [], [], [], [], [], [], [], []] = true := by decide +kernel
theorem e_k103 : e_Ok 103 := by
  intro pc q hm
  have hm : (pc, q) ∈ (e_m 103).2.2.2.2.drop 0 := hm
  rcases e_Ok_c e_k103_0 hm with h | hm
  · exact h
  have hl : (e_m 103).2.2.2.2.length ≤ 60 := by decide +kernel
  rw [List.drop_eq_nil_of_le (by omega)] at hm
  cases hm
theorem e_j103 : e_OkM 103 := e_OkM_i (p1 := 1282) (p2 := 128) (by rfl) (by decide +kernel)
