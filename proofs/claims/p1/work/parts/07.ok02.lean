set_option maxRecDepth 100000
theorem e_k30_0 : e_okD (e_m 30).1.cls (e_m 30).1.name (e_m 30).2.1 (((e_m 30).2.2.2.2.drop 0).take 60) [[], [], [], [], [], [], [], [], [], [], [], [], [], [], [], [], [], [], [], [], [], [], [], [], [], [], [], [622], [560], [], [], [], [493], [], [], [495], [], [], [497], [], [], [499], [], []] = true := by decide +kernel
theorem e_k30 : e_Ok 30 := by
  intro pc q hm
  have hm : (pc, q) ∈ (e_m 30).2.2.2.2.drop 0 := hm
  rcases e_Ok_c e_k30_0 hm with h | hm
  · exact h
  have hl : (e_m 30).2.2.2.2.length ≤ 60 := by decide +kernel
  rw [List.drop_eq_nil_of_le (by omega)] at hm
  cases hm
theorem e_j30 : e_OkM 30 := e_OkM_i (p1 := 698) (p2 := 125) (by rfl) (by decide +kernel)
theorem e_k31_0 : e_okD (e_m 31).1.cls (e_m 31).1.name (e_m 31).2.1 (((e_m 31).2.2.2.2.drop 0).take 60) [[], [], [], [], [], [], [], [], [], [], [629], [], []] = true := by decide +kernel
theorem e_k31 : e_Ok 31 := by
  intro pc q hm
  have hm : (pc, q) ∈ (e_m 31).2.2.2.2.drop 0 := hm
  rcases e_Ok_c e_k31_0 hm with h | hm
  · exact h
  have hl : (e_m 31).2.2.2.2.length ≤ 60 := by decide +kernel
  rw [List.drop_eq_nil_of_le (by omega)] at hm
  cases hm
theorem e_j31 : e_OkM 31 := e_OkM_i (p1 := 702) (p2 := 125) (by rfl) (by decide +kernel)
theorem e_k32_0 : e_okD (e_m 32).1.cls (e_m 32).1.name (e_m 32).2.1 (((e_m 32).2.2.2.2.drop 0).take 60) [[], [622], [], [707, 708, 709], []] = true := by decide +kernel
theorem e_k32 : e_Ok 32 := by
  intro pc q hm
  have hm : (pc, q) ∈ (e_m 32).2.2.2.2.drop 0 := hm
  rcases e_Ok_c e_k32_0 hm with h | hm
  · exact h
  have hl : (e_m 32).2.2.2.2.length ≤ 60 := by decide +kernel
  rw [List.drop_eq_nil_of_le (by omega)] at hm
  cases hm
theorem e_j32 : e_OkM 32 := e_OkM_i (p1 := 706) (p2 := 125) (by rfl) (by decide +kernel)
theorem e_k33_0 : e_okD (e_m 33).1.cls (e_m 33).1.name (e_m 33).2.1 (((e_m 33).2.2.2.2.drop 0).take 60) [[], [623], [], [], [], [], [624], [], [675, 365, 366], [], [], [], [], [], [189], [], [], [186], [], [], [], [], [], [], [], [], [], [622], [], [], [622], [], [624], [], [629], [], [], [622], [556], [], [], [], [], [], [], []] = true := by decide +kernel
theorem e_k33 : e_Ok 33 := by
  intro pc q hm
  have hm : (pc, q) ∈ (e_m 33).2.2.2.2.drop 0 := hm
  rcases e_Ok_c e_k33_0 hm with h | hm
  · exact h
  have hl : (e_m 33).2.2.2.2.length ≤ 60 := by decide +kernel
  rw [List.drop_eq_nil_of_le (by omega)] at hm
  cases hm
theorem e_j33 : e_OkM 33 := e_OkM_i (p1 := 715) (p2 := 125) (by rfl) (by decide +kernel)
theorem e_k34_0 : e_okD (e_m 34).1.cls (e_m 34).1.name (e_m 34).2.1 (((e_m 34).2.2.2.2.drop 0).take 60) [[], [], [], [], [], [], [], [], [], [], [], [], [622], [570], [], [], [], [], [], [], [], [1163], [], [622], [577], [], [], [], [], [], [], [], [], [], [], [], [1180, 880, 128, 881], [], [], [], [], [], [], [], [622], [570], [], [], [], [], [], [622], [], [], [], [], [], [622], [], []] = true := by decide +kernel
theorem e_k34_60 : e_okD (e_m 34).1.cls (e_m 34).1.name (e_m 34).2.1 (((e_m 34).2.2.2.2.drop 60).take 60) [[], [], [], [622], [], [576], [], [], [576], [], [622], [], [577], [], [], [577], [], [], [], []] = true := by decide +kernel
theorem e_k34 : e_Ok 34 := by
  intro pc q hm
  have hm : (pc, q) ∈ (e_m 34).2.2.2.2.drop 0 := hm
  rcases e_Ok_c e_k34_0 hm with h | hm
  · exact h
  rcases e_Ok_c e_k34_60 hm with h | hm
  · exact h
  have hl : (e_m 34).2.2.2.2.length ≤ 120 := by decide +kernel
  rw [List.drop_eq_nil_of_le (by omega)] at hm
  cases hm
theorem e_j34 : e_OkM 34 := e_OkM_i (p1 := 1145) (p2 := 125) (by rfl) (by decide +kernel)
theorem e_k35_0 : e_okD (e_m 35).1.cls (e_m 35).1.name (e_m 35).2.1 (((e_m 35).2.2.2.2.drop 0).take 60) [[], [622], [570], []] = true := by decide +kernel
theorem e_k35 : e_Ok 35 := by
  intro pc q hm
  have hm : (pc, q) ∈ (e_m 35).2.2.2.2.drop 0 := hm
  rcases e_Ok_c e_k35_0 hm with h | hm
  · exact h
  have hl : (e_m 35).2.2.2.2.length ≤ 60 := by decide +kernel
  rw [List.drop_eq_nil_of_le (by omega)] at hm
  cases hm
theorem e_j35 : e_OkM 35 := e_OkM_i (p1 := 812) (p2 := 125) (by rfl) (by decide +kernel)
theorem e_k36_0 : e_okD (e_m 36).1.cls (e_m 36).1.name (e_m 36).2.1 (((e_m 36).2.2.2.2.drop 0).take 60) [[], [], [], [622], [572], [], [], [622], [574], [], [], []] = true := by decide +kernel
theorem e_k36 : e_Ok 36 := by
  intro pc q hm
  have hm : (pc, q) ∈ (e_m 36).2.2.2.2.drop 0 := hm
  rcases e_Ok_c e_k36_0 hm with h | hm
  · exact h
  have hl : (e_m 36).2.2.2.2.length ≤ 60 := by decide +kernel
  rw [List.drop_eq_nil_of_le (by omega)] at hm
  cases hm
theorem e_j36 : e_OkM 36 := e_OkM_i (p1 := 816) (p2 := 125) (by rfl) (by decide +kernel)
theorem e_k37_0 : e_okD (e_m 37).1.cls (e_m 37).1.name (e_m 37).2.1 (((e_m 37).2.2.2.2.drop 0).take 60) [[], [], [], [], [622], [568], [], [], [], [], [], [], [], [], [], [], [622], [566], [], [], []] = true := by decide +kernel
theorem e_k37 : e_Ok 37 := by
  intro pc q hm
  have hm : (pc, q) ∈ (e_m 37).2.2.2.2.drop 0 := hm
  rcases e_Ok_c e_k37_0 hm with h | hm
  · exact h
  have hl : (e_m 37).2.2.2.2.length ≤ 60 := by decide +kernel
  rw [List.drop_eq_nil_of_le (by omega)] at hm
  cases hm
theorem e_j37 : e_OkM 37 := e_OkM_i (p1 := 1373) (p2 := 125) (by rfl) (by decide +kernel)
theorem e_k38_0 : e_okD (e_m 38).1.cls (e_m 38).1.name (e_m 38).2.1 (((e_m 38).2.2.2.2.drop 0).take 60) [[], [622], [556], [], [], [], [821, 822, 823], [], [], [], [], [], [], [], [], [], [419], [], [], [], [], [422], [], [], [], [], [425], [], [], [], [], [432], [], [], [], [], []] = true := by decide +kernel
theorem e_k38 : e_Ok 38 := by
  intro pc q hm
  have hm : (pc, q) ∈ (e_m 38).2.2.2.2.drop 0 := hm
  rcases e_Ok_c e_k38_0 hm with h | hm
  · exact h
  have hl : (e_m 38).2.2.2.2.length ≤ 60 := by decide +kernel
  rw [List.drop_eq_nil_of_le (by omega)] at hm
  cases hm
theorem e_j38 : e_OkM 38 := e_OkM_i (p1 := 820) (p2 := 125) (by rfl) (by decide +kernel)
theorem e_k39_0 : e_okD (e_m 39).1.cls (e_m 39).1.name (e_m 39).2.1 (((e_m 39).2.2.2.2.drop 0).take 60) [[], [622], [556], [], [821, 822, 823], [], [], [], [], [1397, 1399, 63], [], [], [], [], [], [], [], [], [], [], [622], [556], [436], [], [], [], [], [], [], [], [], [622], [], [], [622], [556], [], [624], [], [], [], [], [], [], [], [], [], []] = true := by decide +kernel
theorem e_k39 : e_Ok 39 := by
  intro pc q hm
  have hm : (pc, q) ∈ (e_m 39).2.2.2.2.drop 0 := hm
  rcases e_Ok_c e_k39_0 hm with h | hm
  · exact h
  have hl : (e_m 39).2.2.2.2.length ≤ 60 := by decide +kernel
  rw [List.drop_eq_nil_of_le (by omega)] at hm
  cases hm
theorem e_j39 : e_OkM 39 := e_OkM_i (p1 := 1396) (p2 := 125) (by rfl) (by decide +kernel)
theorem e_k40_0 : e_okD (e_m 40).1.cls (e_m 40).1.name (e_m 40).2.1 (((e_m 40).2.2.2.2.drop 0).take 60) [[], [622], [556], [], [821, 822, 823], [], [], [], [], [1397, 1399, 63], [], [], [], [], [], [622], [556], [], [624], [], [], [], [], [], [], [], [], [], [], [], [622], [556], [436], [], [], [], [], [], [], [], [], [], [], [], [], [], [], [], [622], [558], [], [], [], [], [622], [558], [], [624], [], []] = true := by decide +kernel
theorem e_k40_60 : e_okD (e_m 40).1.cls (e_m 40).1.name (e_m 40).2.1 (((e_m 40).2.2.2.2.drop 60).take 60) [[], [], [], [], [], [], [], [], [], [], [], [], [], [], [], [], [], [1180, 880, 128, 881], [], [], [], [], [], [], [], [622], [558], [], [], [], [], [], [], [], [622], [], [], [], [], [], [624], [], [], [], [], [], [], [], [], [], [], [], []] = true := by decide +kernel
theorem e_k40 : e_Ok 40 := by
  intro pc q hm
  have hm : (pc, q) ∈ (e_m 40).2.2.2.2.drop 0 := hm
  rcases e_Ok_c e_k40_0 hm with h | hm
  · exact h
  rcases e_Ok_c e_k40_60 hm with h | hm
  · exact h
  have hl : (e_m 40).2.2.2.2.length ≤ 120 := by decide +kernel
  rw [List.drop_eq_nil_of_le (by omega)] at hm
  cases hm
theorem e_j40 : e_OkM 40 := e_OkM_i (p1 := 1422) (p2 := 125) (by rfl) (by decide +kernel)
theorem e_k41_0 : e_okD (e_m 41).1.cls (e_m 41).1.name (e_m 41).2.1 (((e_m 41).2.2.2.2.drop 0).take 60) [[], [], [], [], [], [], [622], [556], [], [], [], [624], [], [419], [], [], [675, 365, 366], [194], [], [432], [], [], [], [], [], [], [], [], [], [624], [], [], [], [], [], [], [], []] = true := by decide +kernel
theorem e_k41 : e_Ok 41 := by
  intro pc q hm
  have hm : (pc, q) ∈ (e_m 41).2.2.2.2.drop 0 := hm
  rcases e_Ok_c e_k41_0 hm with h | hm
  · exact h
  have hl : (e_m 41).2.2.2.2.length ≤ 60 := by decide +kernel
  rw [List.drop_eq_nil_of_le (by omega)] at hm
  cases hm
theorem e_j41 : e_OkM 41 := e_OkM_i (p1 := 1400) (p2 := 125) (by rfl) (by decide +kernel)
theorem e_k42_0 : e_okD (e_m 42).1.cls (e_m 42).1.name (e_m 42).2.1 (((e_m 42).2.2.2.2.drop 0).take 60) [[], [623], [], [], [], [], [], [624], [258], [], [], [], [], [622], [560], [], [], [], [], [], [], [622], [560], [502], [], [], [], [], [], [], [], [], [], [], [], [], [], [], [779], [], [], []] = true := by decide +kernel
theorem e_k42 : e_Ok 42 := by
  intro pc q hm
  have hm : (pc, q) ∈ (e_m 42).2.2.2.2.drop 0 := hm
  rcases e_Ok_c e_k42_0 hm with h | hm
  · exact h
  have hl : (e_m 42).2.2.2.2.length ≤ 60 := by decide +kernel
  rw [List.drop_eq_nil_of_le (by omega)] at hm
  cases hm
theorem e_j42 : e_OkM 42 := e_OkM_i (p1 := 828) (p2 := 125) (by rfl) (by decide +kernel)
theorem e_k43_0 : e_okD (e_m 43).1.cls (e_m 43).1.name (e_m 43).2.1 (((e_m 43).2.2.2.2.drop 0).take 60) [[], [623], [], [], [], [], [], [624], [258], [], [], [], [], [], [], [], [], [], [622], [560], [], [], [], [], [], [], [], [], [], [779], [], [], [], [], [784], [], [], [], [], [], [], []] = true := by decide +kernel
theorem e_k43 : e_Ok 43 := by
  intro pc q hm
  have hm : (pc, q) ∈ (e_m 43).2.2.2.2.drop 0 := hm
  rcases e_Ok_c e_k43_0 hm with h | hm
  · exact h
  have hl : (e_m 43).2.2.2.2.length ≤ 60 := by decide +kernel
  rw [List.drop_eq_nil_of_le (by omega)] at hm
  cases hm
