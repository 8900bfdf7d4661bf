set_option maxRecDepth 100000
theorem e_k79_0 : e_okD (e_m 79).1.cls (e_m 79).1.name (e_m 79).2.1 (((e_m 79).2.2.2.2.drop 0).take 60) [[], [], [], [], [170], [523], [], [], [], [], [], [170], [542], [], [], [], [], [170], [552], [1167, 1169, 8], [], [], [], [], [], [], [], [], [], [170], [545], [], [], [], [170], [559], [], [], [1192, 1194, 14], [], [], [], [171], [], [], [172], [], [170], [528], [], [], [], [], [], [], [], [], [], [], [170]] = true := by decide +kernel
theorem e_k79_60 : e_okD (e_m 79).1.cls (e_m 79).1.name (e_m 79).2.1 (((e_m 79).2.2.2.2.drop 60).take 60) [[563], [], [], [], [], [], [], [], [], [170], [563], [], [], [], [], [], [], [], [], [], [], [], []] = true := by decide +kernel
theorem e_k79 : e_Ok 79 := by
  intro pc q hm
  have hm : (pc, q) ∈ (e_m 79).2.2.2.2.drop 0 := hm
  rcases e_Ok_c e_k79_0 hm with h | hm
  · exact h
  rcases e_Ok_c e_k79_60 hm with h | hm
  · exact h
  have hl : (e_m 79).2.2.2.2.length ≤ 120 := by decide +kernel
  rw [List.drop_eq_nil_of_le (by omega)] at hm
  cases hm
theorem e_j79 : e_OkM 79 := e_OkM_i (p1 := 1191) (p2 := 126) (by rfl) (by decide +kernel)
theorem e_k80_0 : e_okD (e_m 80).1.cls (e_m 80).1.name (e_m 80).2.1 (((e_m 80).2.2.2.2.drop 0).take 60) [[], [474], [], [474], [], [], [], [], [477], [], [477], [], [], [], [], [471], [], [], [], [], [], [], [], [170], [], [], [], [], [1196, 1197, 1198], [], [], [], [], [], [], [], [474], [], [], [471], [], [], [], [], [], [471], [], [], [], [], [], [], [], [], []] = true := by decide +kernel
theorem e_k80 : e_Ok 80 := by
  intro pc q hm
  have hm : (pc, q) ∈ (e_m 80).2.2.2.2.drop 0 := hm
  rcases e_Ok_c e_k80_0 hm with h | hm
  · exact h
  have hl : (e_m 80).2.2.2.2.length ≤ 60 := by decide +kernel
  rw [List.drop_eq_nil_of_le (by omega)] at hm
  cases hm
theorem e_j80 : e_OkM 80 := e_OkM_i (p1 := 1195) (p2 := 126) (by rfl) (by decide +kernel)
theorem e_k81_0 : e_okD (e_m 81).1.cls (e_m 81).1.name (e_m 81).2.1 (((e_m 81).2.2.2.2.drop 0).take 60) [[], [468, 162, 163], [], [], [234], [469], []] = true := by decide +kernel
theorem e_k81 : e_Ok 81 := by
  intro pc q hm
  have hm : (pc, q) ∈ (e_m 81).2.2.2.2.drop 0 := hm
  rcases e_Ok_c e_k81_0 hm with h | hm
  · exact h
  have hl : (e_m 81).2.2.2.2.length ≤ 60 := by decide +kernel
  rw [List.drop_eq_nil_of_le (by omega)] at hm
  cases hm
theorem e_j81 : e_OkM 81 := e_OkM_i (p1 := 467) (p2 := 136) (by rfl) (by decide +kernel)
theorem e_k82_0 : e_okD (e_m 82).1.cls (e_m 82).1.name (e_m 82).2.1 (((e_m 82).2.2.2.2.drop 0).take 60) [[], [320, 162, 163], [], [], [323], [], [], [325], [], [], [327], [], [], [329], [], [], [234], [331], [], [], [234], [334], [], [], [321], [337], [], [], [234], [340], [], [], [234], [341], []] = true := by decide +kernel
theorem e_k82 : e_Ok 82 := by
  intro pc q hm
  have hm : (pc, q) ∈ (e_m 82).2.2.2.2.drop 0 := hm
  rcases e_Ok_c e_k82_0 hm with h | hm
  · exact h
  have hl : (e_m 82).2.2.2.2.length ≤ 60 := by decide +kernel
  rw [List.drop_eq_nil_of_le (by omega)] at hm
  cases hm
theorem e_j82 : e_OkM 82 := e_OkM_i (p1 := 319) (p2 := 132) (by rfl) (by decide +kernel)
theorem e_k83_0 : e_okD (e_m 83).1.cls (e_m 83).1.name (e_m 83).2.1 (((e_m 83).2.2.2.2.drop 0).take 60) [[], [331], [], [392, 393], [], [340], [], [392, 393], []] = true := by decide +kernel
theorem e_k83 : e_Ok 83 := by
  intro pc q hm
  have hm : (pc, q) ∈ (e_m 83).2.2.2.2.drop 0 := hm
  rcases e_Ok_c e_k83_0 hm with h | hm
  · exact h
  have hl : (e_m 83).2.2.2.2.length ≤ 60 := by decide +kernel
  rw [List.drop_eq_nil_of_le (by omega)] at hm
  cases hm
theorem e_j83 : e_OkM 83 := e_OkM_i (p1 := 391) (p2 := 132) (by rfl) (by decide +kernel)
theorem e_k84_0 : e_okD (e_m 84).1.cls (e_m 84).1.name (e_m 84).2.1 (((e_m 84).2.2.2.2.drop 0).take 60) [[], [], [344], [], [334], [], [], [344], [577], [], [], [], [721, 722], []] = true := by decide +kernel
theorem e_k84 : e_Ok 84 := by
  intro pc q hm
  have hm : (pc, q) ∈ (e_m 84).2.2.2.2.drop 0 := hm
  rcases e_Ok_c e_k84_0 hm with h | hm
  · exact h
  have hl : (e_m 84).2.2.2.2.length ≤ 60 := by decide +kernel
  rw [List.drop_eq_nil_of_le (by omega)] at hm
  cases hm
theorem e_j84 : e_OkM 84 := e_OkM_i (p1 := 720) (p2 := 132) (by rfl) (by decide +kernel)
theorem e_k85_0 : e_okD (e_m 85).1.cls (e_m 85).1.name (e_m 85).2.1 (((e_m 85).2.2.2.2.drop 0).take 60) [[], [340], [], [], []] = true := by decide +kernel
theorem e_k85 : e_Ok 85 := by
  intro pc q hm
  have hm : (pc, q) ∈ (e_m 85).2.2.2.2.drop 0 := hm
  rcases e_Ok_c e_k85_0 hm with h | hm
  · exact h
  have hl : (e_m 85).2.2.2.2.length ≤ 60 := by decide +kernel
  rw [List.drop_eq_nil_of_le (by omega)] at hm
  cases hm
theorem e_j85 : e_OkM 85 := e_OkM_i (p1 := 1098) (p2 := 132) (by rfl) (by decide +kernel)
theorem e_k86_0 : e_okD (e_m 86).1.cls (e_m 86).1.name (e_m 86).2.1 (((e_m 86).2.2.2.2.drop 0).take 60) [[], [], [340], [], [], [1131, 1132, 1133], []] = true := by decide +kernel
theorem e_k86 : e_Ok 86 := by
  intro pc q hm
  have hm : (pc, q) ∈ (e_m 86).2.2.2.2.drop 0 := hm
  rcases e_Ok_c e_k86_0 hm with h | hm
  · exact h
  have hl : (e_m 86).2.2.2.2.length ≤ 60 := by decide +kernel
  rw [List.drop_eq_nil_of_le (by omega)] at hm
  cases hm
theorem e_j86 : e_OkM 86 := e_OkM_i (p1 := 1130) (p2 := 132) (by rfl) (by decide +kernel)
theorem e_k87_0 : e_okD (e_m 87).1.cls (e_m 87).1.name (e_m 87).2.1 (((e_m 87).2.2.2.2.drop 0).take 60) [[], [], [], [], [338], [], [], [], [], [337], [], [], []] = true := by decide +kernel
theorem e_k87 : e_Ok 87 := by
  intro pc q hm
  have hm : (pc, q) ∈ (e_m 87).2.2.2.2.drop 0 := hm
  rcases e_Ok_c e_k87_0 hm with h | hm
  · exact h
  have hl : (e_m 87).2.2.2.2.length ≤ 60 := by decide +kernel
  rw [List.drop_eq_nil_of_le (by omega)] at hm
  cases hm
theorem e_j87 : e_OkM 87 := e_OkM_i (p1 := 1134) (p2 := 132) (by rfl) (by decide +kernel)
theorem e_k88_0 : e_okD (e_m 88).1.cls (e_m 88).1.name (e_m 88).2.1 (((e_m 88).2.2.2.2.drop 0).take 60) [[], [331], [], [], [], [], [], [], [], [331], [], [], [], [323], [], [], [340], [], [], [], [], [], [338], [], [], [], [], [], [], [342], [], [], [343], [], [], [], [1043, 1045, 2], [321, 1064, 152], [], [], [341], [], [342], [], [343], [], [344], [558], [], [], [497], [], [1066, 1065], [], [], [337], [], [338], [], []] = true := by decide +kernel
theorem e_k88_60 : e_okD (e_m 88).1.cls (e_m 88).1.name (e_m 88).2.1 (((e_m 88).2.2.2.2.drop 60).take 60) [[], [340], [], [], [338], [], [], [], [338], [], [], [338], [], []] = true := by decide +kernel
theorem e_k88 : e_Ok 88 := by
  intro pc q hm
  have hm : (pc, q) ∈ (e_m 88).2.2.2.2.drop 0 := hm
  rcases e_Ok_c e_k88_0 hm with h | hm
  · exact h
  rcases e_Ok_c e_k88_60 hm with h | hm
  · exact h
  have hl : (e_m 88).2.2.2.2.length ≤ 120 := by decide +kernel
  rw [List.drop_eq_nil_of_le (by omega)] at hm
  cases hm
theorem e_j88 : e_OkM 88 := e_OkM_i (p1 := 1042) (p2 := 132) (by rfl) (by decide +kernel)
theorem e_k89_0 : e_okD (e_m 89).1.cls (e_m 89).1.name (e_m 89).2.1 (((e_m 89).2.2.2.2.drop 0).take 60) [[], [340], [], [], [], [], [], [340], [], [], [], [], [331], [], [], [], []] = true := by decide +kernel
theorem e_k89 : e_Ok 89 := by
  intro pc q hm
  have hm : (pc, q) ∈ (e_m 89).2.2.2.2.drop 0 := hm
  rcases e_Ok_c e_k89_0 hm with h | hm
  · exact h
  have hl : (e_m 89).2.2.2.2.length ≤ 60 := by decide +kernel
  rw [List.drop_eq_nil_of_le (by omega)] at hm
  cases hm
theorem e_j89 : e_OkM 89 := e_OkM_i (p1 := 1537) (p2 := 132) (by rfl) (by decide +kernel)
theorem e_k90_0 : e_okD (e_m 90).1.cls (e_m 90).1.name (e_m 90).2.1 (((e_m 90).2.2.2.2.drop 0).take 60) [[], [], [327], [], [], [], [344], [558], [], [], [], [], [], [], [], [497], [], [], [492], [], [], [], [], [], [1047, 1049, 3], [], [], [], [], [1051, 1053, 4], [], [], [], [], [], [], [1055, 1057, 5], [], [], [], [], [], [], [], [1059, 1061, 6], [], [], [], [], [], [], [1043, 1045, 2], [], [341], [], [], [], [], [342], []] = true := by decide +kernel
theorem e_k90_60 : e_okD (e_m 90).1.cls (e_m 90).1.name (e_m 90).2.1 (((e_m 90).2.2.2.2.drop 60).take 60) [[], [], [], [344], [570], [], [492], [], [], [], [1063, 825, 138, 826], [], [], [], []] = true := by decide +kernel
theorem e_k90 : e_Ok 90 := by
  intro pc q hm
  have hm : (pc, q) ∈ (e_m 90).2.2.2.2.drop 0 := hm
  rcases e_Ok_c e_k90_0 hm with h | hm
  · exact h
  rcases e_Ok_c e_k90_60 hm with h | hm
  · exact h
  have hl : (e_m 90).2.2.2.2.length ≤ 120 := by decide +kernel
  rw [List.drop_eq_nil_of_le (by omega)] at hm
  cases hm
theorem e_j90 : e_OkM 90 := e_OkM_i (p1 := 1046) (p2 := 132) (by rfl) (by decide +kernel)
theorem e_k91_0 : e_okD (e_m 91).1.cls (e_m 91).1.name (e_m 91).2.1 (((e_m 91).2.2.2.2.drop 0).take 60) [[], [344], [520], [], [], [], [], [], [], [], [344], [573], [], [], [], [], [], [], [], [], [], [], [], [344], [525], [], [], [334], [], [], [], [], [], [], [], [], [], [], [], [], [], [], [], [], [], [], [334], [], [], [], [], [], [325], [], [], [], [], []] = true := by decide +kernel
theorem e_k91 : e_Ok 91 := by
  intro pc q hm
  have hm : (pc, q) ∈ (e_m 91).2.2.2.2.drop 0 := hm
  rcases e_Ok_c e_k91_0 hm with h | hm
  · exact h
  have hl : (e_m 91).2.2.2.2.length ≤ 60 := by decide +kernel
  rw [List.drop_eq_nil_of_le (by omega)] at hm
  cases hm
theorem e_j91 : e_OkM 91 := e_OkM_i (p1 := 1050) (p2 := 132) (by rfl) (by decide +kernel)
theorem e_k92_0 : e_okD (e_m 92).1.cls (e_m 92).1.name (e_m 92).2.1 (((e_m 92).2.2.2.2.drop 0).take 60) [[], [344], [520], [], [], [], [], [], [], [], [334], [], [344], [573], [], [], [], [], [], [], [325], [], [], [344], [520], [], [], [], [], [], [], [], [], [], [], [], [], [344], [564], [], [], [], [], [344], [520], [], [], [], [], [], [], [], [], []] = true := by decide +kernel
theorem e_k92 : e_Ok 92 := by
  intro pc q hm
  have hm : (pc, q) ∈ (e_m 92).2.2.2.2.drop 0 := hm
  rcases e_Ok_c e_k92_0 hm with h | hm
  · exact h
  have hl : (e_m 92).2.2.2.2.length ≤ 60 := by decide +kernel
  rw [List.drop_eq_nil_of_le (by omega)] at hm
  cases hm
theorem e_j92 : e_OkM 92 := e_OkM_i (p1 := 1054) (p2 := 132) (by rfl) (by decide +kernel)
theorem e_k93_0 : e_okD (e_m 93).1.cls (e_m 93).1.name (e_m 93).2.1 (((e_m 93).2.2.2.2.drop 0).take 60) [[], [344], [558], [], [], [497], [], [], [], [329], [], [], [343], [], [], [], [], [], [], [], []] = true := by decide +kernel
theorem e_k93 : e_Ok 93 := by
  intro pc q hm
  have hm : (pc, q) ∈ (e_m 93).2.2.2.2.drop 0 := hm
  rcases e_Ok_c e_k93_0 hm with h | hm
  · exact h
  have hl : (e_m 93).2.2.2.2.length ≤ 60 := by decide +kernel
  rw [List.drop_eq_nil_of_le (by omega)] at hm
  cases hm
theorem e_j93 : e_OkM 93 := e_OkM_i (p1 := 1058) (p2 := 132) (by rfl) (by decide +kernel)
