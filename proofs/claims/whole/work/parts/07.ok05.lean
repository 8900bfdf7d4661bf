set_option maxRecDepth 100000
theorem e_k65_0 : e_okD (e_m 65).1.cls (e_m 65).1.name (e_m 65).2.1 (((e_m 65).2.2.2.2.drop 0).take 60) [[], [461, 162, 163], [], [], [234], [514], [], [], [234], [527], [], [], [234], [529], [], [], [234], [532], [], [], [234], [537], [], [], [462], [544], [], [], [], [], [], [], [544], [], [462, 464, 136], [], [466, 465], [], [], [], [], [], [462], [553], [], [], [], [], [], [], [553], [], [462, 464, 136], [], [466, 465], [], [], [], [], []] = true := by decide +kernel
theorem e_k65_60 : e_okD (e_m 65).1.cls (e_m 65).1.name (e_m 65).2.1 (((e_m 65).2.2.2.2.drop 60).take 60) [[234], [562], [], [], [234], [567], [], [], [234], [571], [], [], [234], [578], [], [], [624], [581], [], [], [624], [584], []] = true := by decide +kernel
theorem e_k65 : e_Ok 65 := by
  intro pc q hm
  have hm : (pc, q) ∈ (e_m 65).2.2.2.2.drop 0 := hm
  rcases e_Ok_c e_k65_0 hm with h | hm
  · exact h
  rcases e_Ok_c e_k65_60 hm with h | hm
  · exact h
  have hl : (e_m 65).2.2.2.2.length ≤ 120 := by decide +kernel
  rw [List.drop_eq_nil_of_le (by omega)] at hm
  cases hm
theorem e_j65 : e_OkM 65 := e_OkM_i (p1 := 460) (p2 := 135) (by rfl) (by decide +kernel)
theorem e_k66_0 : e_okD (e_m 66).1.cls (e_m 66).1.name (e_m 66).2.1 (((e_m 66).2.2.2.2.drop 0).take 60) [[], [529], [], [], [], [], [], [], [], [], [], [], []] = true := by decide +kernel
theorem e_k66 : e_Ok 66 := by
  intro pc q hm
  have hm : (pc, q) ∈ (e_m 66).2.2.2.2.drop 0 := hm
  rcases e_Ok_c e_k66_0 hm with h | hm
  · exact h
  have hl : (e_m 66).2.2.2.2.length ≤ 60 := by decide +kernel
  rw [List.drop_eq_nil_of_le (by omega)] at hm
  cases hm
theorem e_j66 : e_OkM 66 := e_OkM_i (p1 := 1199) (p2 := 135) (by rfl) (by decide +kernel)
theorem e_k67_0 : e_okD (e_m 67).1.cls (e_m 67).1.name (e_m 67).2.1 (((e_m 67).2.2.2.2.drop 0).take 60) [[], [], [], [], [550], [], [], [], [], [553], [], [], [], [], [], [], [], [496], [], [], [567], [], [488], [], [], [], [], [], [], [], []] = true := by decide +kernel
theorem e_k67 : e_Ok 67 := by
  intro pc q hm
  have hm : (pc, q) ∈ (e_m 67).2.2.2.2.drop 0 := hm
  rcases e_Ok_c e_k67_0 hm with h | hm
  · exact h
  have hl : (e_m 67).2.2.2.2.length ≤ 60 := by decide +kernel
  rw [List.drop_eq_nil_of_le (by omega)] at hm
  cases hm
theorem e_j67 : e_OkM 67 := e_OkM_i (p1 := 674) (p2 := 135) (by rfl) (by decide +kernel)
theorem e_k68_0 : e_okD (e_m 68).1.cls (e_m 68).1.name (e_m 68).2.1 (((e_m 68).2.2.2.2.drop 0).take 60) [[], [], [], [], [581], [], [], [], [682, 683], [], [], [584], [], [], [], [], [], [682, 683], []] = true := by decide +kernel
theorem e_k68 : e_Ok 68 := by
  intro pc q hm
  have hm : (pc, q) ∈ (e_m 68).2.2.2.2.drop 0 := hm
  rcases e_Ok_c e_k68_0 hm with h | hm
  · exact h
  have hl : (e_m 68).2.2.2.2.length ≤ 60 := by decide +kernel
  rw [List.drop_eq_nil_of_le (by omega)] at hm
  cases hm
theorem e_j68 : e_OkM 68 := e_OkM_i (p1 := 681) (p2 := 135) (by rfl) (by decide +kernel)
theorem e_k69_0 : e_okD (e_m 69).1.cls (e_m 69).1.name (e_m 69).2.1 (((e_m 69).2.2.2.2.drop 0).take 60) [[], [], [], [], [], [], [], [], []] = true := by decide +kernel
theorem e_k69 : e_Ok 69 := by
  intro pc q hm
  have hm : (pc, q) ∈ (e_m 69).2.2.2.2.drop 0 := hm
  rcases e_Ok_c e_k69_0 hm with h | hm
  · exact h
  have hl : (e_m 69).2.2.2.2.length ≤ 60 := by decide +kernel
  rw [List.drop_eq_nil_of_le (by omega)] at hm
  cases hm
theorem e_j69 : e_OkM 69 := e_OkM_i (p1 := 684) (p2 := 135) (by rfl) (by decide +kernel)
theorem e_k70_0 : e_okD (e_m 70).1.cls (e_m 70).1.name (e_m 70).2.1 (((e_m 70).2.2.2.2.drop 0).take 60) [[], [], [], [], [], [], [], [], [], []] = true := by decide +kernel
theorem e_k70 : e_Ok 70 := by
  intro pc q hm
  have hm : (pc, q) ∈ (e_m 70).2.2.2.2.drop 0 := hm
  rcases e_Ok_c e_k70_0 hm with h | hm
  · exact h
  have hl : (e_m 70).2.2.2.2.length ≤ 60 := by decide +kernel
  rw [List.drop_eq_nil_of_le (by omega)] at hm
  cases hm
theorem e_j70 : e_OkM 70 := e_OkM_i (p1 := 1263) (p2 := 135) (by rfl) (by decide +kernel)
theorem e_k71_0 : e_okD (e_m 71).1.cls (e_m 71).1.name (e_m 71).2.1 (((e_m 71).2.2.2.2.drop 0).take 60) [[], [169, 162, 163], []] = true := by decide +kernel
theorem e_k71 : e_Ok 71 := by
  intro pc q hm
  have hm : (pc, q) ∈ (e_m 71).2.2.2.2.drop 0 := hm
  rcases e_Ok_c e_k71_0 hm with h | hm
  · exact h
  have hl : (e_m 71).2.2.2.2.length ≤ 60 := by decide +kernel
  rw [List.drop_eq_nil_of_le (by omega)] at hm
  cases hm
theorem e_j71 : e_OkM 71 := e_OkM_i (p1 := 168) (p2 := 126) (by rfl) (by decide +kernel)
theorem e_k72_0 : e_okD (e_m 72).1.cls (e_m 72).1.name (e_m 72).2.1 (((e_m 72).2.2.2.2.drop 0).take 60) [[], [], [170], [], [], [171], [], [], [172], [], [1163, 1165, 7], [], [1176, 1178, 10], [], [1184, 1186, 12], [], [1188, 1190, 13], [], [172], [], [], [], [171], [], [170], [522], [], [], [], [171], [172], [], [172], []] = true := by decide +kernel
theorem e_k72 : e_Ok 72 := by
  intro pc q hm
  have hm : (pc, q) ∈ (e_m 72).2.2.2.2.drop 0 := hm
  rcases e_Ok_c e_k72_0 hm with h | hm
  · exact h
  have hl : (e_m 72).2.2.2.2.length ≤ 60 := by decide +kernel
  rw [List.drop_eq_nil_of_le (by omega)] at hm
  cases hm
theorem e_j72 : e_OkM 72 := e_OkM_i (p1 := 1162) (p2 := 126) (by rfl) (by decide +kernel)
theorem e_k73_0 : e_okD (e_m 73).1.cls (e_m 73).1.name (e_m 73).2.1 (((e_m 73).2.2.2.2.drop 0).take 60) [[], [172], [], [], [], [], [], [171], [], [170], [522], [], [], [], [170], [522], [172], [], [], [], [170], [517], [], [171], [], [], [], [], [], [], [], [], [], [], [171], [172], [], [], [], [], [171], [], [], [171], [], []] = true := by decide +kernel
theorem e_k73 : e_Ok 73 := by
  intro pc q hm
  have hm : (pc, q) ∈ (e_m 73).2.2.2.2.drop 0 := hm
  rcases e_Ok_c e_k73_0 hm with h | hm
  · exact h
  have hl : (e_m 73).2.2.2.2.length ≤ 60 := by decide +kernel
  rw [List.drop_eq_nil_of_le (by omega)] at hm
  cases hm
theorem e_j73 : e_OkM 73 := e_OkM_i (p1 := 1170) (p2 := 126) (by rfl) (by decide +kernel)
theorem e_k74_0 : e_okD (e_m 74).1.cls (e_m 74).1.name (e_m 74).2.1 (((e_m 74).2.2.2.2.drop 0).take 60) [[], [], [], [], [170], [523], [], [], [], [1167, 1169, 8], [], [], [], [], [], [], [], [], [], [171], [], [], [172], [], []] = true := by decide +kernel
theorem e_k74 : e_Ok 74 := by
  intro pc q hm
  have hm : (pc, q) ∈ (e_m 74).2.2.2.2.drop 0 := hm
  rcases e_Ok_c e_k74_0 hm with h | hm
  · exact h
  have hl : (e_m 74).2.2.2.2.length ≤ 60 := by decide +kernel
  rw [List.drop_eq_nil_of_le (by omega)] at hm
  cases hm
theorem e_j74 : e_OkM 74 := e_OkM_i (p1 := 1175) (p2 := 126) (by rfl) (by decide +kernel)
theorem e_k75_0 : e_okD (e_m 75).1.cls (e_m 75).1.name (e_m 75).2.1 (((e_m 75).2.2.2.2.drop 0).take 60) [[], [170], [], [], [], [1167, 1169, 8], [523], [], [], [], [], [170], [523], [], [], [], [], [1167, 1169, 8], [], [], [], [], [], [], [], [], [], [170], [533], [], [], [], [], [170], [528], [], [], [], [], [170], [530], [], [], [], [], [], [], [], [], [], [], [170], [530], [], [], [], [], [], [], []] = true := by decide +kernel
theorem e_k75_60 : e_okD (e_m 75).1.cls (e_m 75).1.name (e_m 75).2.1 (((e_m 75).2.2.2.2.drop 60).take 60) [[], [], [], [170], [538], [], [], [], [], [], [], [170], [538], [], [], [], [], [], [], [], [], [], [], [], [], [], [], [], [], [1171, 843, 138, 844], [1167, 1169, 8], [], [], [], [], [], [], [], [], [170], [538], [], [], [], [], [], [], [], [1172, 1174, 9], [], [], [], [], [170], [533], [], [], [], [], []] = true := by decide +kernel
theorem e_k75_120 : e_okD (e_m 75).1.cls (e_m 75).1.name (e_m 75).2.1 (((e_m 75).2.2.2.2.drop 120).take 60) [[]] = true := by decide +kernel
theorem e_k75 : e_Ok 75 := by
  intro pc q hm
  have hm : (pc, q) ∈ (e_m 75).2.2.2.2.drop 0 := hm
  rcases e_Ok_c e_k75_0 hm with h | hm
  · exact h
  rcases e_Ok_c e_k75_60 hm with h | hm
  · exact h
  rcases e_Ok_c e_k75_120 hm with h | hm
  · exact h
  have hl : (e_m 75).2.2.2.2.length ≤ 180 := by decide +kernel
  rw [List.drop_eq_nil_of_le (by omega)] at hm
  cases hm
theorem e_j75 : e_OkM 75 := e_OkM_i (p1 := 1166) (p2 := 126) (by rfl) (by decide +kernel)
theorem e_k76_0 : e_okD (e_m 76).1.cls (e_m 76).1.name (e_m 76).2.1 (((e_m 76).2.2.2.2.drop 0).take 60) [[], [170], [], [], [], [1167, 1169, 8], [542], [], [], [], [], [170], [542], [], [], [], [170], [545], [], [], [], [1180, 1182, 11], [], [], []] = true := by decide +kernel
theorem e_k76 : e_Ok 76 := by
  intro pc q hm
  have hm : (pc, q) ∈ (e_m 76).2.2.2.2.drop 0 := hm
  rcases e_Ok_c e_k76_0 hm with h | hm
  · exact h
  have hl : (e_m 76).2.2.2.2.length ≤ 60 := by decide +kernel
  rw [List.drop_eq_nil_of_le (by omega)] at hm
  cases hm
theorem e_j76 : e_OkM 76 := e_OkM_i (p1 := 1179) (p2 := 126) (by rfl) (by decide +kernel)
theorem e_k77_0 : e_okD (e_m 77).1.cls (e_m 77).1.name (e_m 77).2.1 (((e_m 77).2.2.2.2.drop 0).take 60) [[], [], [], [], [1167, 1169, 8], [474], [], [], [], [], [474], [], [], [471], [], [], [], [1172, 1174, 9], [], [], [], [], [], [], [1172, 1174, 9], [477], []] = true := by decide +kernel
theorem e_k77 : e_Ok 77 := by
  intro pc q hm
  have hm : (pc, q) ∈ (e_m 77).2.2.2.2.drop 0 := hm
  rcases e_Ok_c e_k77_0 hm with h | hm
  · exact h
  have hl : (e_m 77).2.2.2.2.length ≤ 60 := by decide +kernel
  rw [List.drop_eq_nil_of_le (by omega)] at hm
  cases hm
theorem e_j77 : e_OkM 77 := e_OkM_i (p1 := 1183) (p2 := 126) (by rfl) (by decide +kernel)
theorem e_k78_0 : e_okD (e_m 78).1.cls (e_m 78).1.name (e_m 78).2.1 (((e_m 78).2.2.2.2.drop 0).take 60) [[], [170], [], [], [], [1167, 1169, 8], [552], [], [], [], [], [170], [552], [], [], [170], [559], [], [], [], [], [], [], [1180, 1182, 11], [], [], [], [474], [], [1167, 1169, 8], [482], [], [], [], [], [1167, 1169, 8], [485], [], [], [], [], [1167, 1169, 8], [498], [], [], [171], [491], [], [172], [], [], [], [171], [], [498], [], [], [170], [522], []] = true := by decide +kernel
theorem e_k78_60 : e_okD (e_m 78).1.cls (e_m 78).1.name (e_m 78).2.1 (((e_m 78).2.2.2.2.drop 60).take 60) [[], [], [170], [522], [172], [], [], [171], [], [498], [], [171], [], [], []] = true := by decide +kernel
theorem e_k78 : e_Ok 78 := by
  intro pc q hm
  have hm : (pc, q) ∈ (e_m 78).2.2.2.2.drop 0 := hm
  rcases e_Ok_c e_k78_0 hm with h | hm
  · exact h
  rcases e_Ok_c e_k78_60 hm with h | hm
  · exact h
  have hl : (e_m 78).2.2.2.2.length ≤ 120 := by decide +kernel
  rw [List.drop_eq_nil_of_le (by omega)] at hm
  cases hm
theorem e_j78 : e_OkM 78 := e_OkM_i (p1 := 1187) (p2 := 126) (by rfl) (by decide +kernel)
