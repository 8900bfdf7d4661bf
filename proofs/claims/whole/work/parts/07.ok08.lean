set_option maxRecDepth 100000
theorem e_k104_0 : e_okD (e_m 104).1.cls (e_m 104).1.name (e_m 104).2.1 (((e_m 104).2.2.2.2.drop 0).take 60) [[], [209], [518], [], [], [], [], [], [], [], [], [], [209], [554], [], [], [478], [], [], [209], [546], [], [], [478], []] = true := by decide +kernel
theorem e_k104 : e_Ok 104 := by
  intro pc q hm
  have hm : (pc, q) ∈ (e_m 104).2.2.2.2.drop 0 := hm
  rcases e_Ok_c e_k104_0 hm with h | hm
  · exact h
  have hl : (e_m 104).2.2.2.2.length ≤ 60 := by decide +kernel
  rw [List.drop_eq_nil_of_le (by omega)] at hm
  cases hm
theorem e_j104 : e_OkM 104 := e_OkM_i (p1 := 1286) (p2 := 128) (by rfl) (by decide +kernel)
theorem e_k105_0 : e_okD (e_m 105).1.cls (e_m 105).1.name (e_m 105).2.1 (((e_m 105).2.2.2.2.drop 0).take 60) [[], [], [], [], [], [], [209], [518], [], [], [], [], [], [], [], [209], [539], [], [209], [518], [], [], [], [], [], [], [], [209], [518], [], [], [], [], [], [], [], [], [], [], [], [], [1283, 1285, 31], [], [], []] = true := by decide +kernel
theorem e_k105 : e_Ok 105 := by
  intro pc q hm
  have hm : (pc, q) ∈ (e_m 105).2.2.2.2.drop 0 := hm
  rcases e_Ok_c e_k105_0 hm with h | hm
  · exact h
  have hl : (e_m 105).2.2.2.2.length ≤ 60 := by decide +kernel
  rw [List.drop_eq_nil_of_le (by omega)] at hm
  cases hm
theorem e_j105 : e_OkM 105 := e_OkM_i (p1 := 1302) (p2 := 128) (by rfl) (by decide +kernel)
theorem e_k106_0 : e_okD (e_m 106).1.cls (e_m 106).1.name (e_m 106).2.1 (((e_m 106).2.2.2.2.drop 0).take 60) [[], [209], [579], [], [], [], [], [], [], [], [], [], [212], [], [213], [], [214], [1248, 1250, 24], [], [], [], [], [], [], [212], [], [], [], [], [], [], [1248, 1250, 24], [], [], [], [], [], [], [209], [582], [], [], [], [213], [1252, 1254, 25], [], [], [], [209], [585], [], [], [], [214], [1252, 1254, 25], [], [], [], [209], [582]] = true := by decide +kernel
theorem e_k106_60 : e_okD (e_m 106).1.cls (e_m 106).1.name (e_m 106).2.1 (((e_m 106).2.2.2.2.drop 60).take 60) [[], [], [], [], [], [], [209], [585], [], [], [], [], [], [], [], [], [], [1248, 1250, 24], []] = true := by decide +kernel
theorem e_k106 : e_Ok 106 := by
  intro pc q hm
  have hm : (pc, q) ∈ (e_m 106).2.2.2.2.drop 0 := hm
  rcases e_Ok_c e_k106_0 hm with h | hm
  · exact h
  rcases e_Ok_c e_k106_60 hm with h | hm
  · exact h
  have hl : (e_m 106).2.2.2.2.length ≤ 120 := by decide +kernel
  rw [List.drop_eq_nil_of_le (by omega)] at hm
  cases hm
theorem e_j106 : e_OkM 106 := e_OkM_i (p1 := 1247) (p2 := 128) (by rfl) (by decide +kernel)
theorem e_k107_0 : e_okD (e_m 107).1.cls (e_m 107).1.name (e_m 107).2.1 (((e_m 107).2.2.2.2.drop 0).take 60) [[], [209], [579], [], [], [], [], [209], [582], [], [], [], [], [209], [585], [], [], [], [], [208], [], [], [], [], [], [211], []] = true := by decide +kernel
theorem e_k107 : e_Ok 107 := by
  intro pc q hm
  have hm : (pc, q) ∈ (e_m 107).2.2.2.2.drop 0 := hm
  rcases e_Ok_c e_k107_0 hm with h | hm
  · exact h
  have hl : (e_m 107).2.2.2.2.length ≤ 60 := by decide +kernel
  rw [List.drop_eq_nil_of_le (by omega)] at hm
  cases hm
theorem e_j107 : e_OkM 107 := e_OkM_i (p1 := 1251) (p2 := 128) (by rfl) (by decide +kernel)
theorem e_k108_0 : e_okD (e_m 108).1.cls (e_m 108).1.name (e_m 108).2.1 (((e_m 108).2.2.2.2.drop 0).take 60) [[], [], [], [], [], [], [], [], [], [], [], [], [], [], [], [], [], [1256, 683], [], [], [1256, 683], [1257, 1259, 26], [], [], [], [], [], [], [], [], [], [], []] = true := by decide +kernel
theorem e_k108 : e_Ok 108 := by
  intro pc q hm
  have hm : (pc, q) ∈ (e_m 108).2.2.2.2.drop 0 := hm
  rcases e_Ok_c e_k108_0 hm with h | hm
  · exact h
  have hl : (e_m 108).2.2.2.2.length ≤ 60 := by decide +kernel
  rw [List.drop_eq_nil_of_le (by omega)] at hm
  cases hm
theorem e_j108 : e_OkM 108 := e_OkM_i (p1 := 1255) (p2 := 128) (by rfl) (by decide +kernel)
theorem e_k109_0 : e_okD (e_m 109).1.cls (e_m 109).1.name (e_m 109).2.1 (((e_m 109).2.2.2.2.drop 0).take 60) [[], [], [], [], [], [], [], [1261, 1262], [], [], [], [], [], [], [], [1261, 1262], [], [], [], [], [], [], [], [], [], [], [], [], [], [], [], [], [], [], [], [], [209], [531], [], [], [], [], [], [209], [531], [], [], [], [], [], [], [], [], [], [], [], [], [], [], []] = true := by decide +kernel
theorem e_k109_60 : e_okD (e_m 109).1.cls (e_m 109).1.name (e_m 109).2.1 (((e_m 109).2.2.2.2.drop 60).take 60) [[], [], [], [], [], [], [], [], []] = true := by decide +kernel
theorem e_k109 : e_Ok 109 := by
  intro pc q hm
  have hm : (pc, q) ∈ (e_m 109).2.2.2.2.drop 0 := hm
  rcases e_Ok_c e_k109_0 hm with h | hm
  · exact h
  rcases e_Ok_c e_k109_60 hm with h | hm
  · exact h
  have hl : (e_m 109).2.2.2.2.length ≤ 120 := by decide +kernel
  rw [List.drop_eq_nil_of_le (by omega)] at hm
  cases hm
theorem e_j109 : e_OkM 109 := e_OkM_i (p1 := 1260) (p2 := 128) (by rfl) (by decide +kernel)
theorem e_k110_0 : e_okD (e_m 110).1.cls (e_m 110).1.name (e_m 110).2.1 (((e_m 110).2.2.2.2.drop 0).take 60) [[], [209], [579], [], [], [], [], [], [], [], [], [], [209], [518], [], [], [], [], [], [], [1273, 1275, 29], [], [], [], [], [], [], [], [], [], [], [1279, 1281, 30], [], [], [210], [484], [], [], [], [], [], [209], [585], [], [], [214], [], [], [209], [582], [], [], [213], [], [], [212], [], [], [], []] = true := by decide +kernel
theorem e_k110_60 : e_okD (e_m 110).1.cls (e_m 110).1.name (e_m 110).2.1 (((e_m 110).2.2.2.2.drop 60).take 60) [[], [], [], [], [], [1307, 1309, 36], [], [], [], [], [], [], [], [], [1318, 1320, 38], [], [], [], [], []] = true := by decide +kernel
theorem e_k110 : e_Ok 110 := by
  intro pc q hm
  have hm : (pc, q) ∈ (e_m 110).2.2.2.2.drop 0 := hm
  rcases e_Ok_c e_k110_0 hm with h | hm
  · exact h
  rcases e_Ok_c e_k110_60 hm with h | hm
  · exact h
  have hl : (e_m 110).2.2.2.2.length ≤ 120 := by decide +kernel
  rw [List.drop_eq_nil_of_le (by omega)] at hm
  cases hm
theorem e_j110 : e_OkM 110 := e_OkM_i (p1 := 1306) (p2 := 128) (by rfl) (by decide +kernel)
theorem e_k111_0 : e_okD (e_m 111).1.cls (e_m 111).1.name (e_m 111).2.1 (((e_m 111).2.2.2.2.drop 0).take 60) [[], [212], [], [], [], [214], [], [212], [], [], [], [], [1256, 683], [], [], []] = true := by decide +kernel
theorem e_k111 : e_Ok 111 := by
  intro pc q hm
  have hm : (pc, q) ∈ (e_m 111).2.2.2.2.drop 0 := hm
  rcases e_Ok_c e_k111_0 hm with h | hm
  · exact h
  have hl : (e_m 111).2.2.2.2.length ≤ 60 := by decide +kernel
  rw [List.drop_eq_nil_of_le (by omega)] at hm
  cases hm
theorem e_j111 : e_OkM 111 := e_OkM_i (p1 := 1314) (p2 := 128) (by rfl) (by decide +kernel)
theorem e_k112_0 : e_okD (e_m 112).1.cls (e_m 112).1.name (e_m 112).2.1 (((e_m 112).2.2.2.2.drop 0).take 60) [[], [], [1311, 1313, 37], [], [], [], [1311, 1313, 37], [], [], [], [], [], [], [213], [], [209], [518], [], [], [], [], [1256, 683], [], [], [], [], [], [], [], [], [], [], [], [], [], [], [], [], [], [], [], [], [213], [], [209], [518], [], [], [], [], [1256, 683], [], [], [], [], [], [], [], [], []] = true := by decide +kernel
theorem e_k112_60 : e_okD (e_m 112).1.cls (e_m 112).1.name (e_m 112).2.1 (((e_m 112).2.2.2.2.drop 60).take 60) [[], [], [], [], [], [], [], [], [1315, 1316], [], [], [], [], [], [], [], [], [], [], [], [], [], [], [], []] = true := by decide +kernel
theorem e_k112 : e_Ok 112 := by
  intro pc q hm
  have hm : (pc, q) ∈ (e_m 112).2.2.2.2.drop 0 := hm
  rcases e_Ok_c e_k112_0 hm with h | hm
  · exact h
  rcases e_Ok_c e_k112_60 hm with h | hm
  · exact h
  have hl : (e_m 112).2.2.2.2.length ≤ 120 := by decide +kernel
  rw [List.drop_eq_nil_of_le (by omega)] at hm
  cases hm
theorem e_j112 : e_OkM 112 := e_OkM_i (p1 := 1310) (p2 := 128) (by rfl) (by decide +kernel)
theorem e_k113_0 : e_okD (e_m 113).1.cls (e_m 113).1.name (e_m 113).2.1 (((e_m 113).2.2.2.2.drop 0).take 60) [[], [], [], [], [], [], [], [], [], [], [], [], [], [], [], [], [], [], [], [], [], [], [], [], [], [], [], []] = true := by decide +kernel
theorem e_k113 : e_Ok 113 := by
  intro pc q hm
  have hm : (pc, q) ∈ (e_m 113).2.2.2.2.drop 0 := hm
  rcases e_Ok_c e_k113_0 hm with h | hm
  · exact h
  have hl : (e_m 113).2.2.2.2.length ≤ 60 := by decide +kernel
  rw [List.drop_eq_nil_of_le (by omega)] at hm
  cases hm
theorem e_j113 : e_OkM 113 := e_OkM_i (p1 := 1317) (p2 := 128) (by rfl) (by decide +kernel)
theorem e_k114_0 : e_okD (e_m 114).1.cls (e_m 114).1.name (e_m 114).2.1 (((e_m 114).2.2.2.2.drop 0).take 60) [[], [], [1311, 1313, 37], [], [], [], [1311, 1313, 37], [], [], [], [], [], [], [], [209], [518], [], [], [], [], [], [], [], [], [], [], [], [], [], [], [1323, 1325, 39], [], [], [], [], [], [], [1323, 1325, 39], [], [], [], [], [209], [539], [], [], [], [], [209], [518], [], [], [], [], [], [], [1323, 1325, 39], [], [], []] = true := by decide +kernel
