set_option maxRecDepth 100000
theorem e_k54_0 : e_okD (e_m 54).1.cls (e_m 54).1.name (e_m 54).2.1 (((e_m 54).2.2.2.2.drop 0).take 60) [[], [395], [], [1395, 1396, 1397], [], [], [], [], [421], [], [397], [], [1502, 1503, 1504], [], [421], [519], [], [422], [], [], [], [1511, 1197, 1198], [], [], [], [], [], [], [], [], [], [], [], [], [], [], [], [], [], [], [395], [1399, 1400, 1401], [], [], [395], [], [], [], [], [], [1407, 1408, 1409], [], [395], [], [], [], [1412, 1413, 1414], [], []] = true := by decide +kernel
theorem e_k54 : e_Ok 54 := by
  intro pc q hm
  have hm : (pc, q) ∈ (e_m 54).2.2.2.2.drop 0 := hm
  rcases e_Ok_c e_k54_0 hm with h | hm
  · exact h
  have hl : (e_m 54).2.2.2.2.length ≤ 60 := by decide +kernel
  rw [List.drop_eq_nil_of_le (by omega)] at hm
  cases hm
theorem e_j54 : e_OkM 54 := e_OkM_i (p1 := 1510) (p2 := 129) (by rfl) (by decide +kernel)
theorem e_k55_0 : e_okD (e_m 55).1.cls (e_m 55).1.name (e_m 55).2.1 (((e_m 55).2.2.2.2.drop 0).take 60) [[], [421], [519], [], [422], [], [], [], [], [], [], [], [], [], [], [], [], [395], [], [421], [547], [], [], [476], [1395, 1396, 1397], [], [], [], [], [], [], [397], [], [1502, 1503, 1504], [], [], [421], [565], [], [], [], [], [], [], [], [], [395], [248], [], [], [], [], [], [395], [248], [], [], [], [], []] = true := by decide +kernel
theorem e_k55_60 : e_okD (e_m 55).1.cls (e_m 55).1.name (e_m 55).2.1 (((e_m 55).2.2.2.2.drop 60).take 60) [[], [], [1516, 1518, 58], [], [], [395], [259], [], [], [], [], [399], [335], [], [421], [574], [], [422], [], [], [], [], [], [], [], [], [], [], [], [395], [], [], [], [1412, 1413, 1414], [], [], [], [], [], [1035, 1037, 1], [], [], [395], [], [], [], [395], [262], [], [], [], [1099, 1100, 1101], [], [395], [], [421], [557], [], [], [476]] = true := by decide +kernel
theorem e_k55_120 : e_okD (e_m 55).1.cls (e_m 55).1.name (e_m 55).2.1 (((e_m 55).2.2.2.2.drop 120).take 60) [[1542, 1543, 1544], [], []] = true := by decide +kernel
theorem e_k55 : e_Ok 55 := by
  intro pc q hm
  have hm : (pc, q) ∈ (e_m 55).2.2.2.2.drop 0 := hm
  rcases e_Ok_c e_k55_0 hm with h | hm
  · exact h
  rcases e_Ok_c e_k55_60 hm with h | hm
  · exact h
  rcases e_Ok_c e_k55_120 hm with h | hm
  · exact h
  have hl : (e_m 55).2.2.2.2.length ≤ 180 := by decide +kernel
  rw [List.drop_eq_nil_of_le (by omega)] at hm
  cases hm
theorem e_j55 : e_OkM 55 := e_OkM_i (p1 := 1515) (p2 := 129) (by rfl) (by decide +kernel)
theorem e_k56_0 : e_okD (e_m 56).1.cls (e_m 56).1.name (e_m 56).2.1 (((e_m 56).2.2.2.2.drop 0).take 60) [[], [399], [], [395], [262], [], [], [1520, 1132, 1133], [], [], [395], [259], [], [], [], [], [], [], [], [], [], [395], [264], [], [], [], [395], [256], [], [], [1521, 1522, 1523], [], [], [], [], [], [], [], [], [], [1526, 1527, 1528], [], [], [], [], [1530, 1532, 59], [], [], [], []] = true := by decide +kernel
theorem e_k56 : e_Ok 56 := by
  intro pc q hm
  have hm : (pc, q) ∈ (e_m 56).2.2.2.2.drop 0 := hm
  rcases e_Ok_c e_k56_0 hm with h | hm
  · exact h
  have hl : (e_m 56).2.2.2.2.length ≤ 60 := by decide +kernel
  rw [List.drop_eq_nil_of_le (by omega)] at hm
  cases hm
theorem e_j56 : e_OkM 56 := e_OkM_i (p1 := 1519) (p2 := 129) (by rfl) (by decide +kernel)
theorem e_k57_0 : e_okD (e_m 57).1.cls (e_m 57).1.name (e_m 57).2.1 (((e_m 57).2.2.2.2.drop 0).take 60) [[], [], [], [], [], [395], [259], [], [], [], [], [], [], [], [395], [252], [], [], [], [], [401], [], [], [413], [], [], [395], [252], [], [], [], [395], [256], [], [], [1091, 1092, 1093], [], [399], [], [], [395], [262], [], [], [1534, 1535, 1536], [], [], [], [], [], [], [395], [], [1538, 1539, 1540], [], [], []] = true := by decide +kernel
theorem e_k57 : e_Ok 57 := by
  intro pc q hm
  have hm : (pc, q) ∈ (e_m 57).2.2.2.2.drop 0 := hm
  rcases e_Ok_c e_k57_0 hm with h | hm
  · exact h
  have hl : (e_m 57).2.2.2.2.length ≤ 60 := by decide +kernel
  rw [List.drop_eq_nil_of_le (by omega)] at hm
  cases hm
theorem e_j57 : e_OkM 57 := e_OkM_i (p1 := 1533) (p2 := 129) (by rfl) (by decide +kernel)
theorem e_k58_0 : e_okD (e_m 58).1.cls (e_m 58).1.name (e_m 58).2.1 (((e_m 58).2.2.2.2.drop 0).take 60) [[], [399], [], [1039, 1040, 1041], [], [], [], [], [401], [], [], [413], [], [], [1079], [], [1081], [1091, 1092, 1093], [], [399], [], [1095, 1096, 1097], [], [], [395], [], [], [], [], [], [], [], [], [], [1099, 1100, 1101], []] = true := by decide +kernel
theorem e_k58 : e_Ok 58 := by
  intro pc q hm
  have hm : (pc, q) ∈ (e_m 58).2.2.2.2.drop 0 := hm
  rcases e_Ok_c e_k58_0 hm with h | hm
  · exact h
  have hl : (e_m 58).2.2.2.2.length ≤ 60 := by decide +kernel
  rw [List.drop_eq_nil_of_le (by omega)] at hm
  cases hm
theorem e_j58 : e_OkM 58 := e_OkM_i (p1 := 1038) (p2 := 129) (by rfl) (by decide +kernel)
theorem e_k59_0 : e_okD (e_m 59).1.cls (e_m 59).1.name (e_m 59).2.1 (((e_m 59).2.2.2.2.drop 0).take 60) [[], [], [], [], [395], [1399, 1400, 1401], [], [], [], [], [395], [], [248], [], [], [248], [], [395], [248], [], [], [], [], [], [395], [], [1407, 1408, 1409], [], [], [], [], [407], [], [], [421], [557], [], [], [479], [], [], [], [], [], [411], [], []] = true := by decide +kernel
theorem e_k59 : e_Ok 59 := by
  intro pc q hm
  have hm : (pc, q) ∈ (e_m 59).2.2.2.2.drop 0 := hm
  rcases e_Ok_c e_k59_0 hm with h | hm
  · exact h
  have hl : (e_m 59).2.2.2.2.length ≤ 60 := by decide +kernel
  rw [List.drop_eq_nil_of_le (by omega)] at hm
  cases hm
theorem e_j59 : e_OkM 59 := e_OkM_i (p1 := 1549) (p2 := 129) (by rfl) (by decide +kernel)
theorem e_k60_0 : e_okD (e_m 60).1.cls (e_m 60).1.name (e_m 60).2.1 (((e_m 60).2.2.2.2.drop 0).take 60) [[], [], [], [], [395], [1399, 1400, 1401], [], [], [405], [], [], [], [403], [], [405], [], [], [], [], [405], [], [], [405], [], [], [395], [], [1554, 1556, 62], [1407, 1408, 1409], [], [395], [], [], [], [1412, 1413, 1414], [], []] = true := by decide +kernel
theorem e_k60 : e_Ok 60 := by
  intro pc q hm
  have hm : (pc, q) ∈ (e_m 60).2.2.2.2.drop 0 := hm
  rcases e_Ok_c e_k60_0 hm with h | hm
  · exact h
  have hl : (e_m 60).2.2.2.2.length ≤ 60 := by decide +kernel
  rw [List.drop_eq_nil_of_le (by omega)] at hm
  cases hm
theorem e_j60 : e_OkM 60 := e_OkM_i (p1 := 1553) (p2 := 129) (by rfl) (by decide +kernel)
theorem e_k61_0 : e_okD (e_m 61).1.cls (e_m 61).1.name (e_m 61).2.1 (((e_m 61).2.2.2.2.drop 0).take 60) [[], [417], [], [], [], [], [419], [], [420], [], [], [], [], [420], [], [], [], [], [420], [], [], [417], [], [], [417], [], []] = true := by decide +kernel
theorem e_k61 : e_Ok 61 := by
  intro pc q hm
  have hm : (pc, q) ∈ (e_m 61).2.2.2.2.drop 0 := hm
  rcases e_Ok_c e_k61_0 hm with h | hm
  · exact h
  have hl : (e_m 61).2.2.2.2.length ≤ 60 := by decide +kernel
  rw [List.drop_eq_nil_of_le (by omega)] at hm
  cases hm
theorem e_j61 : e_OkM 61 := e_OkM_i (p1 := 1557) (p2 := 129) (by rfl) (by decide +kernel)
theorem e_k62_0 : e_okD (e_m 62).1.cls (e_m 62).1.name (e_m 62).2.1 (((e_m 62).2.2.2.2.drop 0).take 60) [[], [1068, 162, 163], [], [], [1077], [], [], [1080], [], [], [], [], [], [1069, 1070], [1082], []] = true := by decide +kernel
theorem e_k62 : e_Ok 62 := by
  intro pc q hm
  have hm : (pc, q) ∈ (e_m 62).2.2.2.2.drop 0 := hm
  rcases e_Ok_c e_k62_0 hm with h | hm
  · exact h
  have hl : (e_m 62).2.2.2.2.length ≤ 60 := by decide +kernel
  rw [List.drop_eq_nil_of_le (by omega)] at hm
  cases hm
theorem e_j62 : e_OkM 62 := e_OkM_i (p1 := 1067) (p2 := 152) (by rfl) (by decide +kernel)
theorem e_k63_0 : e_okD (e_m 63).1.cls (e_m 63).1.name (e_m 63).2.1 (((e_m 63).2.2.2.2.drop 0).take 60) [[], [], [], [], [1077], [], [], [1082], [], [], [], [], [], [], [], [], [], [], [], [], [], [], [], [1082], [], [], [], [], [], [], [], [], [], [], [], [], [], [], [1082], [], [], [], [], [], [], [1525, 825, 138, 826], [], [], [], []] = true := by decide +kernel
theorem e_k63 : e_Ok 63 := by
  intro pc q hm
  have hm : (pc, q) ∈ (e_m 63).2.2.2.2.drop 0 := hm
  rcases e_Ok_c e_k63_0 hm with h | hm
  · exact h
  have hl : (e_m 63).2.2.2.2.length ≤ 60 := by decide +kernel
  rw [List.drop_eq_nil_of_le (by omega)] at hm
  cases hm
theorem e_j63 : e_OkM 63 := e_OkM_i (p1 := 1524) (p2 := 152) (by rfl) (by decide +kernel)
theorem e_k64_0 : e_okD (e_m 64).1.cls (e_m 64).1.name (e_m 64).2.1 (((e_m 64).2.2.2.2.drop 0).take 60) [[], [1082], [], [], [], [], [], [], []] = true := by decide +kernel
theorem e_k64 : e_Ok 64 := by
  intro pc q hm
  have hm : (pc, q) ∈ (e_m 64).2.2.2.2.drop 0 := hm
  rcases e_Ok_c e_k64_0 hm with h | hm
  · exact h
  have hl : (e_m 64).2.2.2.2.length ≤ 60 := by decide +kernel
  rw [List.drop_eq_nil_of_le (by omega)] at hm
  cases hm
theorem e_j64 : e_OkM 64 := e_OkM_i (p1 := 1529) (p2 := 152) (by rfl) (by decide +kernel)
