set_option maxRecDepth 100000
theorem e_k13_0 : e_okD (e_m 13).1.cls (e_m 13).1.name (e_m 13).2.1 (((e_m 13).2.2.2.2.drop 0).take 60) [[], [258], [], [], [], [], [261], [], [], [], [], [263], [], [], [], []] = true := by decide +kernel
theorem e_k13 : e_Ok 13 := by
  intro pc q hm
  have hm : (pc, q) ∈ (e_m 13).2.2.2.2.drop 0 := hm
  rcases e_Ok_c e_k13_0 hm with h | hm
  · exact h
  have hl : (e_m 13).2.2.2.2.length ≤ 60 := by decide +kernel
  rw [List.drop_eq_nil_of_le (by omega)] at hm
  cases hm
theorem e_j13 : e_OkM 13 := e_OkM_i (p1 := 1541) (p2 := 130) (by rfl) (by decide +kernel)
theorem e_k14_0 : e_okD (e_m 14).1.cls (e_m 14).1.name (e_m 14).2.1 (((e_m 14).2.2.2.2.drop 0).take 60) [[], [268], [], [], [], [], [268], [], [], [], [], [268], [], [], [], [], [268], [], [], [], []] = true := by decide +kernel
theorem e_k14 : e_Ok 14 := by
  intro pc q hm
  have hm : (pc, q) ∈ (e_m 14).2.2.2.2.drop 0 := hm
  rcases e_Ok_c e_k14_0 hm with h | hm
  · exact h
  have hl : (e_m 14).2.2.2.2.length ≤ 60 := by decide +kernel
  rw [List.drop_eq_nil_of_le (by omega)] at hm
  cases hm
theorem e_j14 : e_OkM 14 := e_OkM_i (p1 := 1106) (p2 := 130) (by rfl) (by decide +kernel)
theorem e_k15_0 : e_okD (e_m 15).1.cls (e_m 15).1.name (e_m 15).2.1 (((e_m 15).2.2.2.2.drop 0).take 60) [[], [247], [], [], [], [], [265], [], [], [], [], [], [], [], [], [], [], [], [], [265], [], [], [], [], [], [247], [], [], [], [], [], [], [], [], [], [], [], [268], [], [], [], [], [268], [], [], [], [], [], [], [], []] = true := by decide +kernel
theorem e_k15 : e_Ok 15 := by
  intro pc q hm
  have hm : (pc, q) ∈ (e_m 15).2.2.2.2.drop 0 := hm
  rcases e_Ok_c e_k15_0 hm with h | hm
  · exact h
  have hl : (e_m 15).2.2.2.2.length ≤ 60 := by decide +kernel
  rw [List.drop_eq_nil_of_le (by omega)] at hm
  cases hm
theorem e_j15 : e_OkM 15 := e_OkM_i (p1 := 1545) (p2 := 130) (by rfl) (by decide +kernel)
theorem e_k16_0 : e_okD (e_m 16).1.cls (e_m 16).1.name (e_m 16).2.1 (((e_m 16).2.2.2.2.drop 0).take 60) [[], [247], [], [], [], [], [268], [], [], [], [], [], [], [265], [], [], [], [], [], [], [], [], []] = true := by decide +kernel
theorem e_k16 : e_Ok 16 := by
  intro pc q hm
  have hm : (pc, q) ∈ (e_m 16).2.2.2.2.drop 0 := hm
  rcases e_Ok_c e_k16_0 hm with h | hm
  · exact h
  have hl : (e_m 16).2.2.2.2.length ≤ 60 := by decide +kernel
  rw [List.drop_eq_nil_of_le (by omega)] at hm
  cases hm
theorem e_j16 : e_OkM 16 := e_OkM_i (p1 := 1398) (p2 := 130) (by rfl) (by decide +kernel)
theorem e_k17_0 : e_okD (e_m 17).1.cls (e_m 17).1.name (e_m 17).2.1 (((e_m 17).2.2.2.2.drop 0).take 60) [[], [], [1403, 1396, 1397], [], [], [265], [], [247], [], [], [], [], [], [], [], [], []] = true := by decide +kernel
theorem e_k17 : e_Ok 17 := by
  intro pc q hm
  have hm : (pc, q) ∈ (e_m 17).2.2.2.2.drop 0 := hm
  rcases e_Ok_c e_k17_0 hm with h | hm
  · exact h
  have hl : (e_m 17).2.2.2.2.length ≤ 60 := by decide +kernel
  rw [List.drop_eq_nil_of_le (by omega)] at hm
  cases hm
theorem e_j17 : e_OkM 17 := e_OkM_i (p1 := 1402) (p2 := 130) (by rfl) (by decide +kernel)
theorem e_k18_0 : e_okD (e_m 18).1.cls (e_m 18).1.name (e_m 18).2.1 (((e_m 18).2.2.2.2.drop 0).take 60) [[], [247], [], [], [], [], [268], [], [], [], [], [], [], [265], [], [], [], [], [], [], [265], [], [], [], [], [], [], []] = true := by decide +kernel
theorem e_k18 : e_Ok 18 := by
  intro pc q hm
  have hm : (pc, q) ∈ (e_m 18).2.2.2.2.drop 0 := hm
  rcases e_Ok_c e_k18_0 hm with h | hm
  · exact h
  have hl : (e_m 18).2.2.2.2.length ≤ 60 := by decide +kernel
  rw [List.drop_eq_nil_of_le (by omega)] at hm
  cases hm
theorem e_j18 : e_OkM 18 := e_OkM_i (p1 := 1410) (p2 := 130) (by rfl) (by decide +kernel)
theorem e_k19_0 : e_okD (e_m 19).1.cls (e_m 19).1.name (e_m 19).2.1 (((e_m 19).2.2.2.2.drop 0).take 60) [[], [255], [], [247], [], [], [], [], [], [], [], []] = true := by decide +kernel
theorem e_k19 : e_Ok 19 := by
  intro pc q hm
  have hm : (pc, q) ∈ (e_m 19).2.2.2.2.drop 0 := hm
  rcases e_Ok_c e_k19_0 hm with h | hm
  · exact h
  have hl : (e_m 19).2.2.2.2.length ≤ 60 := by decide +kernel
  rw [List.drop_eq_nil_of_le (by omega)] at hm
  cases hm
theorem e_j19 : e_OkM 19 := e_OkM_i (p1 := 1415) (p2 := 130) (by rfl) (by decide +kernel)
theorem e_k20_0 : e_okD (e_m 20).1.cls (e_m 20).1.name (e_m 20).2.1 (((e_m 20).2.2.2.2.drop 0).take 60) [[], [], [247], [], [], [], [], [], [], [], [], [], [], [561], [], [251], [], [], [], [493], [], [255], [], [], [], [], [], []] = true := by decide +kernel
theorem e_k20 : e_Ok 20 := by
  intro pc q hm
  have hm : (pc, q) ∈ (e_m 20).2.2.2.2.drop 0 := hm
  rcases e_Ok_c e_k20_0 hm with h | hm
  · exact h
  have hl : (e_m 20).2.2.2.2.length ≤ 60 := by decide +kernel
  rw [List.drop_eq_nil_of_le (by omega)] at hm
  cases hm
theorem e_j20 : e_OkM 20 := e_OkM_i (p1 := 1459) (p2 := 130) (by rfl) (by decide +kernel)
theorem e_k21_0 : e_okD (e_m 21).1.cls (e_m 21).1.name (e_m 21).2.1 (((e_m 21).2.2.2.2.drop 0).take 60) [[], [], [], [], [1597, 1457, 1458], [], [1598, 679, 680], []] = true := by decide +kernel
theorem e_k21 : e_Ok 21 := by
  intro pc q hm
  have hm : (pc, q) ∈ (e_m 21).2.2.2.2.drop 0 := hm
  rcases e_Ok_c e_k21_0 hm with h | hm
  · exact h
  have hl : (e_m 21).2.2.2.2.length ≤ 60 := by decide +kernel
  rw [List.drop_eq_nil_of_le (by omega)] at hm
  cases hm
theorem e_j21 : e_OkM 21 := e_OkM_i (p1 := 1596) (p2 := 130) (by rfl) (by decide +kernel)
theorem e_k22_0 : e_okD (e_m 22).1.cls (e_m 22).1.name (e_m 22).2.1 (((e_m 22).2.2.2.2.drop 0).take 60) [[], [294, 162, 163], [], [], [234], [302], [], [], [234], [303], []] = true := by decide +kernel
theorem e_k22 : e_Ok 22 := by
  intro pc q hm
  have hm : (pc, q) ∈ (e_m 22).2.2.2.2.drop 0 := hm
  rcases e_Ok_c e_k22_0 hm with h | hm
  · exact h
  have hl : (e_m 22).2.2.2.2.length ≤ 60 := by decide +kernel
  rw [List.drop_eq_nil_of_le (by omega)] at hm
  cases hm
theorem e_j22 : e_OkM 22 := e_OkM_i (p1 := 293) (p2 := 131) (by rfl) (by decide +kernel)
theorem e_k23_0 : e_okD (e_m 23).1.cls (e_m 23).1.name (e_m 23).2.1 (((e_m 23).2.2.2.2.drop 0).take 60) [[], [], [295], [], [], [297], [], [], [300], []] = true := by decide +kernel
theorem e_k23 : e_Ok 23 := by
  intro pc q hm
  have hm : (pc, q) ∈ (e_m 23).2.2.2.2.drop 0 := hm
  rcases e_Ok_c e_k23_0 hm with h | hm
  · exact h
  have hl : (e_m 23).2.2.2.2.length ≤ 60 := by decide +kernel
  rw [List.drop_eq_nil_of_le (by omega)] at hm
  cases hm
theorem e_j23 : e_OkM 23 := e_OkM_i (p1 := 712) (p2 := 131) (by rfl) (by decide +kernel)
theorem e_k24_0 : e_okD (e_m 24).1.cls (e_m 24).1.name (e_m 24).2.1 (((e_m 24).2.2.2.2.drop 0).take 60) [[], [297], [], [], [], [], [295], [], [], [], [], [], [], []] = true := by decide +kernel
theorem e_k24 : e_Ok 24 := by
  intro pc q hm
  have hm : (pc, q) ∈ (e_m 24).2.2.2.2.drop 0 := hm
  rcases e_Ok_c e_k24_0 hm with h | hm
  · exact h
  have hl : (e_m 24).2.2.2.2.length ≤ 60 := by decide +kernel
  rw [List.drop_eq_nil_of_le (by omega)] at hm
  cases hm
theorem e_j24 : e_OkM 24 := e_OkM_i (p1 := 1451) (p2 := 131) (by rfl) (by decide +kernel)
theorem e_k25_0 : e_okD (e_m 25).1.cls (e_m 25).1.name (e_m 25).2.1 (((e_m 25).2.2.2.2.drop 0).take 60) [[], [302], [], [], []] = true := by decide +kernel
theorem e_k25 : e_Ok 25 := by
  intro pc q hm
  have hm : (pc, q) ∈ (e_m 25).2.2.2.2.drop 0 := hm
  rcases e_Ok_c e_k25_0 hm with h | hm
  · exact h
  have hl : (e_m 25).2.2.2.2.length ≤ 60 := by decide +kernel
  rw [List.drop_eq_nil_of_le (by omega)] at hm
  cases hm
theorem e_j25 : e_OkM 25 := e_OkM_i (p1 := 1607) (p2 := 131) (by rfl) (by decide +kernel)
theorem e_k26_0 : e_okD (e_m 26).1.cls (e_m 26).1.name (e_m 26).2.1 (((e_m 26).2.2.2.2.drop 0).take 60) [[], [302], [], [], [], [], []] = true := by decide +kernel
theorem e_k26 : e_Ok 26 := by
  intro pc q hm
  have hm : (pc, q) ∈ (e_m 26).2.2.2.2.drop 0 := hm
  rcases e_Ok_c e_k26_0 hm with h | hm
  · exact h
  have hl : (e_m 26).2.2.2.2.length ≤ 60 := by decide +kernel
  rw [List.drop_eq_nil_of_le (by omega)] at hm
  cases hm
theorem e_j26 : e_OkM 26 := e_OkM_i (p1 := 1505) (p2 := 131) (by rfl) (by decide +kernel)
theorem e_k27_0 : e_okD (e_m 27).1.cls (e_m 27).1.name (e_m 27).2.1 (((e_m 27).2.2.2.2.drop 0).take 60) [[], [], [], [], [], [], [], [], [534], [], [], []] = true := by decide +kernel
theorem e_k27 : e_Ok 27 := by
  intro pc q hm
  have hm : (pc, q) ∈ (e_m 27).2.2.2.2.drop 0 := hm
  rcases e_Ok_c e_k27_0 hm with h | hm
  · exact h
  have hl : (e_m 27).2.2.2.2.length ≤ 60 := by decide +kernel
  rw [List.drop_eq_nil_of_le (by omega)] at hm
  cases hm
theorem e_j27 : e_OkM 27 := e_OkM_i (p1 := 1475) (p2 := 131) (by rfl) (by decide +kernel)
theorem e_k28_0 : e_okD (e_m 28).1.cls (e_m 28).1.name (e_m 28).2.1 (((e_m 28).2.2.2.2.drop 0).take 60) [[], [302], [], [], [], [], [], [], []] = true := by decide +kernel
theorem e_k28 : e_Ok 28 := by
  intro pc q hm
  have hm : (pc, q) ∈ (e_m 28).2.2.2.2.drop 0 := hm
  rcases e_Ok_c e_k28_0 hm with h | hm
  · exact h
  have hl : (e_m 28).2.2.2.2.length ≤ 60 := by decide +kernel
  rw [List.drop_eq_nil_of_le (by omega)] at hm
  cases hm
theorem e_j28 : e_OkM 28 := e_OkM_i (p1 := 1497) (p2 := 131) (by rfl) (by decide +kernel)
theorem e_k29_0 : e_okD (e_m 29).1.cls (e_m 29).1.name (e_m 29).2.1 (((e_m 29).2.2.2.2.drop 0).take 60) [[], [302], [], [], [], [], [], [], [], []] = true := by decide +kernel
theorem e_k29 : e_Ok 29 := by
  intro pc q hm
  have hm : (pc, q) ∈ (e_m 29).2.2.2.2.drop 0 := hm
  rcases e_Ok_c e_k29_0 hm with h | hm
  · exact h
  have hl : (e_m 29).2.2.2.2.length ≤ 60 := by decide +kernel
  rw [List.drop_eq_nil_of_le (by omega)] at hm
  cases hm
theorem e_j29 : e_OkM 29 := e_OkM_i (p1 := 1493) (p2 := 131) (by rfl) (by decide +kernel)
theorem e_k30_0 : e_okD (e_m 30).1.cls (e_m 30).1.name (e_m 30).2.1 (((e_m 30).2.2.2.2.drop 0).take 60) [[], [297], [], [], [], [], [], [300], [], [], [300], [], [302], [], [], [300], [], [], [302], [], [], [], [], [], [], [302], [], [], [], [], [], [], [], [], [], [1485, 722], [], [], [297], [], [], [], [], [297], [], []] = true := by decide +kernel
theorem e_k30 : e_Ok 30 := by
  intro pc q hm
  have hm : (pc, q) ∈ (e_m 30).2.2.2.2.drop 0 := hm
  rcases e_Ok_c e_k30_0 hm with h | hm
  · exact h
  have hl : (e_m 30).2.2.2.2.length ≤ 60 := by decide +kernel
  rw [List.drop_eq_nil_of_le (by omega)] at hm
  cases hm
theorem e_j30 : e_OkM 30 := e_OkM_i (p1 := 1484) (p2 := 131) (by rfl) (by decide +kernel)
theorem e_k31_0 : e_okD (e_m 31).1.cls (e_m 31).1.name (e_m 31).2.1 (((e_m 31).2.2.2.2.drop 0).take 60) [[], [302], [], [], [], [303], [302], [], [], [303], [], [], [297], [], [], [], [], [249], [], [], [], [], [1456, 1457, 1458], [], [], [], [], [], [], [560], [], [253], [], [], [], [483], [], [], [], [], [270], [], [583], [], [], [], [], [1461, 1463, 51], [], [], [], [270], [], [586], [], [], [], [], [], []] = true := by decide +kernel
theorem e_k31_60 : e_okD (e_m 31).1.cls (e_m 31).1.name (e_m 31).2.1 (((e_m 31).2.2.2.2.drop 60).take 60) [[266], [], [], [1461, 1463, 51], [], [], [], [], [], [], [297], [], [], [], [], [], [302], [], [], [], [], [], [], [], [], [], [], [], [], [1477, 1479, 53], [], [], [], [], [], [1472, 1473, 1474], [], [], [], [], []] = true := by decide +kernel
theorem e_k31 : e_Ok 31 := by
  intro pc q hm
  have hm : (pc, q) ∈ (e_m 31).2.2.2.2.drop 0 := hm
  rcases e_Ok_c e_k31_0 hm with h | hm
  · exact h
  rcases e_Ok_c e_k31_60 hm with h | hm
  · exact h
  have hl : (e_m 31).2.2.2.2.length ≤ 120 := by decide +kernel
  rw [List.drop_eq_nil_of_le (by omega)] at hm
  cases hm
theorem e_j31 : e_OkM 31 := e_OkM_i (p1 := 1455) (p2 := 131) (by rfl) (by decide +kernel)
theorem e_k32_0 : e_okD (e_m 32).1.cls (e_m 32).1.name (e_m 32).2.1 (((e_m 32).2.2.2.2.drop 0).take 60) [[], [1465], [], [], [], [], [], [], [], [], [], [], [], [], [1466, 683], [1467, 1262], [], [], [], [], [], [], [], [], [], [], [], [], [1468, 1470, 52], [], [], [], []] = true := by decide +kernel
theorem e_k32 : e_Ok 32 := by
  intro pc q hm
  have hm : (pc, q) ∈ (e_m 32).2.2.2.2.drop 0 := hm
  rcases e_Ok_c e_k32_0 hm with h | hm
  · exact h
  have hl : (e_m 32).2.2.2.2.length ≤ 60 := by decide +kernel
  rw [List.drop_eq_nil_of_le (by omega)] at hm
  cases hm
theorem e_j32 : e_OkM 32 := e_OkM_i (p1 := 1464) (p2 := 131) (by rfl) (by decide +kernel)
theorem e_k33_0 : e_okD (e_m 33).1.cls (e_m 33).1.name (e_m 33).2.1 (((e_m 33).2.2.2.2.drop 0).take 60) [[], [], [], [], [534], [], [], [], [], [540], [], [], [], [], [], [], [], [], [], [302], [], [], [], [], [], [], [], [], [302], [], [], [], [], [], [], [1468, 1470, 52], [], [], [], []] = true := by decide +kernel
theorem e_k33 : e_Ok 33 := by
  intro pc q hm
  have hm : (pc, q) ∈ (e_m 33).2.2.2.2.drop 0 := hm
  rcases e_Ok_c e_k33_0 hm with h | hm
  · exact h
  have hl : (e_m 33).2.2.2.2.length ≤ 60 := by decide +kernel
  rw [List.drop_eq_nil_of_le (by omega)] at hm
  cases hm
theorem e_j33 : e_OkM 33 := e_OkM_i (p1 := 1480) (p2 := 131) (by rfl) (by decide +kernel)
