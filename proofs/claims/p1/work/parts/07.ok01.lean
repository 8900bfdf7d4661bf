set_option maxRecDepth 100000
theorem e_j14 : e_OkM 14 := e_OkM_i (p1 := 897) (p2 := 130) (by rfl) (by decide +kernel)
theorem e_k15_0 : e_okD (e_m 15).1.cls (e_m 15).1.name (e_m 15).2.1 (((e_m 15).2.2.2.2.drop 0).take 60) [[], [328], [], [], [], [869, 871, 8], [260], [], [], [], [], [328], [260], [], [], [328], [], [902, 365, 366], [], [], [], [], [894, 896, 11], [], [], [], [188], [], [869, 871, 8], [196], [], [], [], [], [869, 871, 8], [199], [], [], [], [], [869, 871, 8], [212], [], [], [329], [205], [], [330], [], [], [], [329], [], [212], [], [], [328], [236], [], []] = true := by decide +kernel
theorem e_k15_60 : e_okD (e_m 15).1.cls (e_m 15).1.name (e_m 15).2.1 (((e_m 15).2.2.2.2.drop 60).take 60) [[], [328], [236], [330], [], [], [329], [], [212], [], [329], [], [], []] = true := by decide +kernel
theorem e_k15 : e_Ok 15 := by
  intro pc q hm
  have hm : (pc, q) ∈ (e_m 15).2.2.2.2.drop 0 := hm
  rcases e_Ok_c e_k15_0 hm with h | hm
  · exact h
  rcases e_Ok_c e_k15_60 hm with h | hm
  · exact h
  have hl : (e_m 15).2.2.2.2.length ≤ 120 := by decide +kernel
  rw [List.drop_eq_nil_of_le (by omega)] at hm
  cases hm
theorem e_j15 : e_OkM 15 := e_OkM_i (p1 := 901) (p2 := 130) (by rfl) (by decide +kernel)
theorem e_k16_0 : e_okD (e_m 16).1.cls (e_m 16).1.name (e_m 16).2.1 (((e_m 16).2.2.2.2.drop 0).take 60) [[], [], [], [], [328], [237], [], [], [], [], [], [328], [253], [], [], [], [], [328], [260], [869, 871, 8], [], [], [], [], [], [], [], [], [], [328], [], [], [], [328], [], [902, 365, 366], [], [], [], [], [329], [], [], [330], [], [328], [242], [], [], [], [], [], [], [], [], [], [], [328], [263], []] = true := by decide +kernel
theorem e_k16_60 : e_okD (e_m 16).1.cls (e_m 16).1.name (e_m 16).2.1 (((e_m 16).2.2.2.2.drop 60).take 60) [[], [], [], [], [], [], [], [328], [263], [], [], [], [], [], [], [874, 552, 553], [], [], [], [], []] = true := by decide +kernel
theorem e_k16 : e_Ok 16 := by
  intro pc q hm
  have hm : (pc, q) ∈ (e_m 16).2.2.2.2.drop 0 := hm
  rcases e_Ok_c e_k16_0 hm with h | hm
  · exact h
  rcases e_Ok_c e_k16_60 hm with h | hm
  · exact h
  have hl : (e_m 16).2.2.2.2.length ≤ 120 := by decide +kernel
  rw [List.drop_eq_nil_of_le (by omega)] at hm
  cases hm
theorem e_j16 : e_OkM 16 := e_OkM_i (p1 := 906) (p2 := 130) (by rfl) (by decide +kernel)
theorem e_k17_0 : e_okD (e_m 17).1.cls (e_m 17).1.name (e_m 17).2.1 (((e_m 17).2.2.2.2.drop 0).take 60) [[], [165, 152, 153], [], [], [], [166, 167, 128, 168], [173], [169], []] = true := by decide +kernel
theorem e_k17 : e_Ok 17 := by
  intro pc q hm
  have hm : (pc, q) ∈ (e_m 17).2.2.2.2.drop 0 := hm
  rcases e_Ok_c e_k17_0 hm with h | hm
  · exact h
  have hl : (e_m 17).2.2.2.2.length ≤ 60 := by decide +kernel
  rw [List.drop_eq_nil_of_le (by omega)] at hm
  cases hm
theorem e_j17 : e_OkM 17 := e_OkM_i (p1 := 164) (p2 := 127) (by rfl) (by decide +kernel)
theorem e_k18_0 : e_okD (e_m 18).1.cls (e_m 18).1.name (e_m 18).2.1 (((e_m 18).2.2.2.2.drop 0).take 60) [[], [], [], [], [169], [], [], [], [169], [], [], [], []] = true := by decide +kernel
theorem e_k18 : e_Ok 18 := by
  intro pc q hm
  have hm : (pc, q) ∈ (e_m 18).2.2.2.2.drop 0 := hm
  rcases e_Ok_c e_k18_0 hm with h | hm
  · exact h
  have hl : (e_m 18).2.2.2.2.length ≤ 60 := by decide +kernel
  rw [List.drop_eq_nil_of_le (by omega)] at hm
  cases hm
theorem e_j18 : e_OkM 18 := e_OkM_i (p1 := 554) (p2 := 127) (by rfl) (by decide +kernel)
theorem e_k19_0 : e_okD (e_m 19).1.cls (e_m 19).1.name (e_m 19).2.1 (((e_m 19).2.2.2.2.drop 0).take 60) [[], [], [], [], [], [], [], [], [551, 552, 553], [], [], []] = true := by decide +kernel
theorem e_k19 : e_Ok 19 := by
  intro pc q hm
  have hm : (pc, q) ∈ (e_m 19).2.2.2.2.drop 0 := hm
  rcases e_Ok_c e_k19_0 hm with h | hm
  · exact h
  have hl : (e_m 19).2.2.2.2.length ≤ 60 := by decide +kernel
  rw [List.drop_eq_nil_of_le (by omega)] at hm
  cases hm
theorem e_j19 : e_OkM 19 := e_OkM_i (p1 := 550) (p2 := 127) (by rfl) (by decide +kernel)
theorem e_k20_0 : e_okD (e_m 20).1.cls (e_m 20).1.name (e_m 20).2.1 (((e_m 20).2.2.2.2.drop 0).take 60) [[], [180, 152, 153], [], [181, 161, 127], [], [], [163, 182], [183], []] = true := by decide +kernel
theorem e_k20 : e_Ok 20 := by
  intro pc q hm
  have hm : (pc, q) ∈ (e_m 20).2.2.2.2.drop 0 := hm
  rcases e_Ok_c e_k20_0 hm with h | hm
  · exact h
  have hl : (e_m 20).2.2.2.2.length ≤ 60 := by decide +kernel
  rw [List.drop_eq_nil_of_le (by omega)] at hm
  cases hm
theorem e_j20 : e_OkM 20 := e_OkM_i (p1 := 179) (p2 := 129) (by rfl) (by decide +kernel)
theorem e_k21_0 : e_okD (e_m 21).1.cls (e_m 21).1.name (e_m 21).2.1 (((e_m 21).2.2.2.2.drop 0).take 60) [[], [487, 152, 153], [], [], [513], [], [], [492], [], [], [494], [], [], [496], [], [], [498], [], [488, 161, 127], [], [], [163, 489], [500], [], [488, 161, 127], [], [], [163, 489], [503], [], [], [490], [506], [], [488, 161, 127], [], [], [163, 489], [509], [], [488, 161, 127], [], [], [163, 489], [510], []] = true := by decide +kernel
theorem e_k21 : e_Ok 21 := by
  intro pc q hm
  have hm : (pc, q) ∈ (e_m 21).2.2.2.2.drop 0 := hm
  rcases e_Ok_c e_k21_0 hm with h | hm
  · exact h
  have hl : (e_m 21).2.2.2.2.length ≤ 60 := by decide +kernel
  rw [List.drop_eq_nil_of_le (by omega)] at hm
  cases hm
theorem e_j21 : e_OkM 21 := e_OkM_i (p1 := 486) (p2 := 136) (by rfl) (by decide +kernel)
theorem e_k22_0 : e_okD (e_m 22).1.cls (e_m 22).1.name (e_m 22).2.1 (((e_m 22).2.2.2.2.drop 0).take 60) [[], [500], [], [], [], [547, 548, 549], [], [509], [], [], [], [547, 548, 549], []] = true := by decide +kernel
theorem e_k22 : e_Ok 22 := by
  intro pc q hm
  have hm : (pc, q) ∈ (e_m 22).2.2.2.2.drop 0 := hm
  rcases e_Ok_c e_k22_0 hm with h | hm
  · exact h
  have hl : (e_m 22).2.2.2.2.length ≤ 60 := by decide +kernel
  rw [List.drop_eq_nil_of_le (by omega)] at hm
  cases hm
theorem e_j22 : e_OkM 22 := e_OkM_i (p1 := 546) (p2 := 136) (by rfl) (by decide +kernel)
theorem e_k23_0 : e_okD (e_m 23).1.cls (e_m 23).1.name (e_m 23).2.1 (((e_m 23).2.2.2.2.drop 0).take 60) [[], [361, 152, 153], [], [362, 161, 127], [], [], [163, 363], [372], [], [], [373], [], [], [], [364, 365, 366], [374], []] = true := by decide +kernel
theorem e_k23 : e_Ok 23 := by
  intro pc q hm
  have hm : (pc, q) ∈ (e_m 23).2.2.2.2.drop 0 := hm
  rcases e_Ok_c e_k23_0 hm with h | hm
  · exact h
  have hl : (e_m 23).2.2.2.2.length ≤ 60 := by decide +kernel
  rw [List.drop_eq_nil_of_le (by omega)] at hm
  cases hm
theorem e_j23 : e_OkM 23 := e_OkM_i (p1 := 360) (p2 := 132) (by rfl) (by decide +kernel)
theorem e_k24_0 : e_okD (e_m 24).1.cls (e_m 24).1.name (e_m 24).2.1 (((e_m 24).2.2.2.2.drop 0).take 60) [[], [151, 152, 153], [], [154, 155, 126], [], [157, 156], [624], [], [154, 155, 126], [], [157, 156], [625], [], [322, 323, 130], [], [], [625], [325, 324], [619], [], [338, 339, 131], [], [], [625], [341, 340], [620], [], [356, 357, 132], [], [], [625], [359, 358], [621], [], [398, 399, 133], [], [], [624], [401, 400], [622], [], [], [629], []] = true := by decide +kernel
theorem e_k24 : e_Ok 24 := by
  intro pc q hm
  have hm : (pc, q) ∈ (e_m 24).2.2.2.2.drop 0 := hm
  rcases e_Ok_c e_k24_0 hm with h | hm
  · exact h
  have hl : (e_m 24).2.2.2.2.length ≤ 60 := by decide +kernel
  rw [List.drop_eq_nil_of_le (by omega)] at hm
  cases hm
theorem e_j24 : e_OkM 24 := e_OkM_i (p1 := 150) (p2 := 125) (by rfl) (by decide +kernel)
theorem e_k25_0 : e_okD (e_m 25).1.cls (e_m 25).1.name (e_m 25).2.1 (((e_m 25).2.2.2.2.drop 0).take 60) [[], [], [], [], [], [], [], [625], [235], [], [], [], [], [], [], [], [], [], [], [], [], [], [625], [229], [], [625], [235], [], [], [], [], [], [], [], [], [657, 552, 553], [], [625], [], [235], [], [], [235], [], [], [], []] = true := by decide +kernel
theorem e_k25 : e_Ok 25 := by
  intro pc q hm
  have hm : (pc, q) ∈ (e_m 25).2.2.2.2.drop 0 := hm
  rcases e_Ok_c e_k25_0 hm with h | hm
  · exact h
  have hl : (e_m 25).2.2.2.2.length ≤ 60 := by decide +kernel
  rw [List.drop_eq_nil_of_le (by omega)] at hm
  cases hm
theorem e_j25 : e_OkM 25 := e_OkM_i (p1 := 656) (p2 := 125) (by rfl) (by decide +kernel)
theorem e_k26_0 : e_okD (e_m 26).1.cls (e_m 26).1.name (e_m 26).2.1 (((e_m 26).2.2.2.2.drop 0).take 60) [[], [619], [], [625], [861, 862, 863], [], [], [], [], [], [], [], [], [915, 917, 15], [], [], [620], [], [625], [], [], [], [], [], [620], [347], [], [620], [345], [915, 917, 15], [], [], [621], [], [625], [], [], [], [], [], [621], [371], [], [621], [369], [915, 917, 15], [], [], [], [], [], [915, 917, 15], [], [626], [], [], [625], [], [235], []] = true := by decide +kernel
theorem e_k26_60 : e_okD (e_m 26).1.cls (e_m 26).1.name (e_m 26).2.1 (((e_m 26).2.2.2.2.drop 60).take 60) [[], [], [], [], [], [624], [], [], [], [625], [624], [], [], [625], [], [625], [], [235], [], [], [623], [], [622], [], [], [624], [258], []] = true := by decide +kernel
theorem e_k26 : e_Ok 26 := by
  intro pc q hm
  have hm : (pc, q) ∈ (e_m 26).2.2.2.2.drop 0 := hm
  rcases e_Ok_c e_k26_0 hm with h | hm
  · exact h
  rcases e_Ok_c e_k26_60 hm with h | hm
  · exact h
  have hl : (e_m 26).2.2.2.2.length ≤ 120 := by decide +kernel
  rw [List.drop_eq_nil_of_le (by omega)] at hm
  cases hm
theorem e_j26 : e_OkM 26 := e_OkM_i (p1 := 860) (p2 := 125) (by rfl) (by decide +kernel)
theorem e_k27_0 : e_okD (e_m 27).1.cls (e_m 27).1.name (e_m 27).2.1 (((e_m 27).2.2.2.2.drop 0).take 60) [[], [], [626], [], [], [627], [], [], [628], []] = true := by decide +kernel
theorem e_k27 : e_Ok 27 := by
  intro pc q hm
  have hm : (pc, q) ∈ (e_m 27).2.2.2.2.drop 0 := hm
  rcases e_Ok_c e_k27_0 hm with h | hm
  · exact h
  have hl : (e_m 27).2.2.2.2.length ≤ 60 := by decide +kernel
  rw [List.drop_eq_nil_of_le (by omega)] at hm
  cases hm
theorem e_j27 : e_OkM 27 := e_OkM_i (p1 := 918) (p2 := 125) (by rfl) (by decide +kernel)
theorem e_k28_0 : e_okD (e_m 28).1.cls (e_m 28).1.name (e_m 28).2.1 (((e_m 28).2.2.2.2.drop 0).take 60) [[], [], [], [626], [], [], [627], [], [], [628], [], [], []] = true := by decide +kernel
theorem e_k28 : e_Ok 28 := by
  intro pc q hm
  have hm : (pc, q) ∈ (e_m 28).2.2.2.2.drop 0 := hm
  rcases e_Ok_c e_k28_0 hm with h | hm
  · exact h
  have hl : (e_m 28).2.2.2.2.length ≤ 60 := by decide +kernel
  rw [List.drop_eq_nil_of_le (by omega)] at hm
  cases hm
theorem e_j28 : e_OkM 28 := e_OkM_i (p1 := 661) (p2 := 125) (by rfl) (by decide +kernel)
theorem e_k29_0 : e_okD (e_m 29).1.cls (e_m 29).1.name (e_m 29).2.1 (((e_m 29).2.2.2.2.drop 0).take 60) [[], [623], [], [], [624], [], [], [], [], [], [], [], [624], [], [675, 365, 366], [], [], [202], [], [], [], [], [624], [281], [], [], [], [], [], [], [], [194], [], [624], [281], [], [], [], [], [], [], [], [], [], [], [624], [], [], [], []] = true := by decide +kernel
theorem e_k29 : e_Ok 29 := by
  intro pc q hm
  have hm : (pc, q) ∈ (e_m 29).2.2.2.2.drop 0 := hm
  rcases e_Ok_c e_k29_0 hm with h | hm
  · exact h
  have hl : (e_m 29).2.2.2.2.length ≤ 60 := by decide +kernel
  rw [List.drop_eq_nil_of_le (by omega)] at hm
  cases hm
theorem e_j29 : e_OkM 29 := e_OkM_i (p1 := 665) (p2 := 125) (by rfl) (by decide +kernel)
