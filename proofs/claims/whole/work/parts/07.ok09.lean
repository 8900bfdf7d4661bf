set_option maxRecDepth 100000
theorem e_k114_60 : e_okD (e_m 114).1.cls (e_m 114).1.name (e_m 114).2.1 (((e_m 114).2.2.2.2.drop 60).take 60) [[], [], [], [], [], [], [], [], [], [], [], [], [1323, 1325, 39], [], [], [], [], [], [], [], [], [], [], [], [1311, 1313, 37], [], [1323, 1325, 39], [], [], [], [], [], [], [], [], [], [], [], [], [], [], [1323, 1325, 39], [], [], [], [], [], [], [], [], [], [], [], [], [], [209], [554], [], [], [1328, 1330, 40]] = true := by decide +kernel
theorem e_k114_120 : e_okD (e_m 114).1.cls (e_m 114).1.name (e_m 114).2.1 (((e_m 114).2.2.2.2.drop 120).take 60) [[], [], [], [209], [546], [], [], [1328, 1330, 40], [], [], [], [1332, 1334, 41], [], [], [], [], [], [], [210], [478], [], [], [], [], [], [], [210], [478], [], [], [], [], [210], [478], [1323, 1325, 39], [], [], [], [], [], [], []] = true := by decide +kernel
theorem e_k114 : e_Ok 114 := by
  intro pc q hm
  have hm : (pc, q) ∈ (e_m 114).2.2.2.2.drop 0 := hm
  rcases e_Ok_c e_k114_0 hm with h | hm
  · exact h
  rcases e_Ok_c e_k114_60 hm with h | hm
  · exact h
  rcases e_Ok_c e_k114_120 hm with h | hm
  · exact h
  have hl : (e_m 114).2.2.2.2.length ≤ 180 := by decide +kernel
  rw [List.drop_eq_nil_of_le (by omega)] at hm
  cases hm
theorem e_j114 : e_OkM 114 := e_OkM_i (p1 := 1321) (p2 := 128) (by rfl) (by decide +kernel)
theorem e_k115_0 : e_okD (e_m 115).1.cls (e_m 115).1.name (e_m 115).2.1 (((e_m 115).2.2.2.2.drop 0).take 60) [[], [], [], [], [473], [], [], [], [], [473], [], [], [], [], [1311, 1313, 37], [], [470], [], [], [1323, 1325, 39], [], [], [], [], [], [], []] = true := by decide +kernel
theorem e_k115 : e_Ok 115 := by
  intro pc q hm
  have hm : (pc, q) ∈ (e_m 115).2.2.2.2.drop 0 := hm
  rcases e_Ok_c e_k115_0 hm with h | hm
  · exact h
  have hl : (e_m 115).2.2.2.2.length ≤ 60 := by decide +kernel
  rw [List.drop_eq_nil_of_le (by omega)] at hm
  cases hm
theorem e_j115 : e_OkM 115 := e_OkM_i (p1 := 1331) (p2 := 128) (by rfl) (by decide +kernel)
theorem e_k116_0 : e_okD (e_m 116).1.cls (e_m 116).1.name (e_m 116).2.1 (((e_m 116).2.2.2.2.drop 0).take 60) [[], [], [209], [546], [], [], [473], [1311, 1313, 37], [], [], [], [], [], [209], [566], [], [], [], [], [], [], [], [], [], [], [], [], [], []] = true := by decide +kernel
theorem e_k116 : e_Ok 116 := by
  intro pc q hm
  have hm : (pc, q) ∈ (e_m 116).2.2.2.2.drop 0 := hm
  rcases e_Ok_c e_k116_0 hm with h | hm
  · exact h
  have hl : (e_m 116).2.2.2.2.length ≤ 60 := by decide +kernel
  rw [List.drop_eq_nil_of_le (by omega)] at hm
  cases hm
theorem e_j116 : e_OkM 116 := e_OkM_i (p1 := 1335) (p2 := 128) (by rfl) (by decide +kernel)
theorem e_k117_0 : e_okD (e_m 117).1.cls (e_m 117).1.name (e_m 117).2.1 (((e_m 117).2.2.2.2.drop 0).take 60) [[], [], [], [], [], [], [], [], [], [], [], [], [], [], [], [], [], [], [209], [], [], [], [], [], [], [1327, 1197, 1198], [], [], [], [], []] = true := by decide +kernel
theorem e_k117 : e_Ok 117 := by
  intro pc q hm
  have hm : (pc, q) ∈ (e_m 117).2.2.2.2.drop 0 := hm
  rcases e_Ok_c e_k117_0 hm with h | hm
  · exact h
  have hl : (e_m 117).2.2.2.2.length ≤ 60 := by decide +kernel
  rw [List.drop_eq_nil_of_le (by omega)] at hm
  cases hm
theorem e_j117 : e_OkM 117 := e_OkM_i (p1 := 1326) (p2 := 128) (by rfl) (by decide +kernel)
theorem e_k118_0 : e_okD (e_m 118).1.cls (e_m 118).1.name (e_m 118).2.1 (((e_m 118).2.2.2.2.drop 0).take 60) [[], [161, 162, 163], [], [164, 165, 126], [], [167], [625], [], [180, 181, 127], [], [183], [626], [], [198, 199, 128], [], [201, 200], [627], [], [235, 236, 129], [], [238, 237], [628], [], [456, 457, 135], [], [459, 458], [630], [], [456, 457, 135], [], [459, 458], [631], [], [], [635], []] = true := by decide +kernel
theorem e_k118 : e_Ok 118 := by
  intro pc q hm
  have hm : (pc, q) ∈ (e_m 118).2.2.2.2.drop 0 := hm
  rcases e_Ok_c e_k118_0 hm with h | hm
  · exact h
  have hl : (e_m 118).2.2.2.2.length ≤ 60 := by decide +kernel
  rw [List.drop_eq_nil_of_le (by omega)] at hm
  cases hm
theorem e_j118 : e_OkM 118 := e_OkM_i (p1 := 160) (p2 := 125) (by rfl) (by decide +kernel)
theorem e_k119_0 : e_okD (e_m 119).1.cls (e_m 119).1.name (e_m 119).2.1 (((e_m 119).2.2.2.2.drop 0).take 60) [[], [], [], [], [], [], [], [631], [521], [], [], [], [], [], [], [], [], [], [], [], [], [], [631], [515], [], [631], [521], [], [], [], [], [], [], [], [], [], [], [631], [], [521], [], [], [521], [], [], [], []] = true := by decide +kernel
theorem e_k119 : e_Ok 119 := by
  intro pc q hm
  have hm : (pc, q) ∈ (e_m 119).2.2.2.2.drop 0 := hm
  rcases e_Ok_c e_k119_0 hm with h | hm
  · exact h
  have hl : (e_m 119).2.2.2.2.length ≤ 60 := by decide +kernel
  rw [List.drop_eq_nil_of_le (by omega)] at hm
  cases hm
theorem e_j119 : e_OkM 119 := e_OkM_i (p1 := 662) (p2 := 125) (by rfl) (by decide +kernel)
theorem e_k120_0 : e_okD (e_m 120).1.cls (e_m 120).1.name (e_m 120).2.1 (((e_m 120).2.2.2.2.drop 0).take 60) [[], [625], [], [631], [1159, 1160, 1161], [], [], [], [], [], [], [], [], [1200, 1202, 15], [], [], [626], [], [631], [1204, 1205, 1206], [], [], [], [], [626], [189], [], [626], [187], [1200, 1202, 15], [], [], [627], [], [631], [1235, 1236, 1237], [], [], [], [], [627], [207], [], [627], [205], [1200, 1202, 15], [], [], [], [], [], [1200, 1202, 15], [], [632], [], [], [631], [], [521], []] = true := by decide +kernel
theorem e_k120_60 : e_okD (e_m 120).1.cls (e_m 120).1.name (e_m 120).2.1 (((e_m 120).2.2.2.2.drop 60).take 60) [[], [], [], [], [], [630], [], [], [], [631], [630], [], [], [631], [], [631], [], [521], [], [], [629], [], [628], [705, 706, 707], [], [630], [551], []] = true := by decide +kernel
theorem e_k120 : e_Ok 120 := by
  intro pc q hm
  have hm : (pc, q) ∈ (e_m 120).2.2.2.2.drop 0 := hm
  rcases e_Ok_c e_k120_0 hm with h | hm
  · exact h
  rcases e_Ok_c e_k120_60 hm with h | hm
  · exact h
  have hl : (e_m 120).2.2.2.2.length ≤ 120 := by decide +kernel
  rw [List.drop_eq_nil_of_le (by omega)] at hm
  cases hm
theorem e_j120 : e_OkM 120 := e_OkM_i (p1 := 1158) (p2 := 125) (by rfl) (by decide +kernel)
theorem e_k121_0 : e_okD (e_m 121).1.cls (e_m 121).1.name (e_m 121).2.1 (((e_m 121).2.2.2.2.drop 0).take 60) [[], [], [632], [], [], [633], [], [], [634], []] = true := by decide +kernel
theorem e_k121 : e_Ok 121 := by
  intro pc q hm
  have hm : (pc, q) ∈ (e_m 121).2.2.2.2.drop 0 := hm
  rcases e_Ok_c e_k121_0 hm with h | hm
  · exact h
  have hl : (e_m 121).2.2.2.2.length ≤ 60 := by decide +kernel
  rw [List.drop_eq_nil_of_le (by omega)] at hm
  cases hm
theorem e_j121 : e_OkM 121 := e_OkM_i (p1 := 1203) (p2 := 125) (by rfl) (by decide +kernel)
theorem e_k122_0 : e_okD (e_m 122).1.cls (e_m 122).1.name (e_m 122).2.1 (((e_m 122).2.2.2.2.drop 0).take 60) [[], [], [], [632], [], [], [633], [], [], [634], [], [], []] = true := by decide +kernel
theorem e_k122 : e_Ok 122 := by
  intro pc q hm
  have hm : (pc, q) ∈ (e_m 122).2.2.2.2.drop 0 := hm
  rcases e_Ok_c e_k122_0 hm with h | hm
  · exact h
  have hl : (e_m 122).2.2.2.2.length ≤ 60 := by decide +kernel
  rw [List.drop_eq_nil_of_le (by omega)] at hm
  cases hm
theorem e_j122 : e_OkM 122 := e_OkM_i (p1 := 666) (p2 := 125) (by rfl) (by decide +kernel)
theorem e_k123_0 : e_okD (e_m 123).1.cls (e_m 123).1.name (e_m 123).2.1 (((e_m 123).2.2.2.2.drop 0).take 60) [[], [629], [], [], [630], [], [], [671, 672, 673], [], [], [], [], [630], [556], [], [], [], [], [489], [], [], [], [], [630], [580], [], [], [], [], [], [], [], [480], [], [630], [580], [], [], [675, 676], [], [], [], [], [], [], [], [630], [], [], [678, 679, 680], []] = true := by decide +kernel
theorem e_k123 : e_Ok 123 := by
  intro pc q hm
  have hm : (pc, q) ∈ (e_m 123).2.2.2.2.drop 0 := hm
  rcases e_Ok_c e_k123_0 hm with h | hm
  · exact h
  have hl : (e_m 123).2.2.2.2.length ≤ 60 := by decide +kernel
  rw [List.drop_eq_nil_of_le (by omega)] at hm
  cases hm
theorem e_j123 : e_OkM 123 := e_OkM_i (p1 := 670) (p2 := 125) (by rfl) (by decide +kernel)
theorem e_k124_0 : e_okD (e_m 124).1.cls (e_m 124).1.name (e_m 124).2.1 (((e_m 124).2.2.2.2.drop 0).take 60) [[], [], [], [], [], [], [], [], [], [], [], [], [], [], [], [], [], [], [], [], [], [], []] = true := by decide +kernel
theorem e_k124 : e_Ok 124 := by
  intro pc q hm
  have hm : (pc, q) ∈ (e_m 124).2.2.2.2.drop 0 := hm
  rcases e_Ok_c e_k124_0 hm with h | hm
  · exact h
  have hl : (e_m 124).2.2.2.2.length ≤ 60 := by decide +kernel
  rw [List.drop_eq_nil_of_le (by omega)] at hm
  cases hm
theorem e_j124 : e_OkM 124 := e_OkM_i (p1 := 677) (p2 := 125) (by rfl) (by decide +kernel)
theorem e_k125_0 : e_okD (e_m 125).1.cls (e_m 125).1.name (e_m 125).2.1 (((e_m 125).2.2.2.2.drop 0).take 60) [[], [], [], [], [], [], [], [], [], [], [], [], [], [], [], [], [], [], [], [], [], [], [], [], [], [], [], [628], [400], [], [], [], [324], [], [], [326], [], [], [328], [], [], [330], [], []] = true := by decide +kernel
theorem e_k125 : e_Ok 125 := by
  intro pc q hm
  have hm : (pc, q) ∈ (e_m 125).2.2.2.2.drop 0 := hm
  rcases e_Ok_c e_k125_0 hm with h | hm
  · exact h
  have hl : (e_m 125).2.2.2.2.length ≤ 60 := by decide +kernel
  rw [List.drop_eq_nil_of_le (by omega)] at hm
  cases hm
theorem e_j125 : e_OkM 125 := e_OkM_i (p1 := 688) (p2 := 125) (by rfl) (by decide +kernel)
theorem e_k126_0 : e_okD (e_m 126).1.cls (e_m 126).1.name (e_m 126).2.1 (((e_m 126).2.2.2.2.drop 0).take 60) [[], [], [], [], [], [], [], [], [], [], [635], [], []] = true := by decide +kernel
theorem e_k126 : e_Ok 126 := by
  intro pc q hm
  have hm : (pc, q) ∈ (e_m 126).2.2.2.2.drop 0 := hm
  rcases e_Ok_c e_k126_0 hm with h | hm
  · exact h
  have hl : (e_m 126).2.2.2.2.length ≤ 60 := by decide +kernel
  rw [List.drop_eq_nil_of_le (by omega)] at hm
  cases hm
theorem e_j126 : e_OkM 126 := e_OkM_i (p1 := 692) (p2 := 125) (by rfl) (by decide +kernel)
theorem e_k127_0 : e_okD (e_m 127).1.cls (e_m 127).1.name (e_m 127).2.1 (((e_m 127).2.2.2.2.drop 0).take 60) [[], [628], [], [697, 698, 699], []] = true := by decide +kernel
theorem e_k127 : e_Ok 127 := by
  intro pc q hm
  have hm : (pc, q) ∈ (e_m 127).2.2.2.2.drop 0 := hm
  rcases e_Ok_c e_k127_0 hm with h | hm
  · exact h
  have hl : (e_m 127).2.2.2.2.length ≤ 60 := by decide +kernel
  rw [List.drop_eq_nil_of_le (by omega)] at hm
  cases hm
theorem e_j127 : e_OkM 127 := e_OkM_i (p1 := 696) (p2 := 125) (by rfl) (by decide +kernel)
