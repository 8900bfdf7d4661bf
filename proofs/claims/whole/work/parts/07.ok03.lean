set_option maxRecDepth 100000
theorem e_k46_0 : e_okD (e_m 46).1.cls (e_m 46).1.name (e_m 46).2.1 (((e_m 46).2.2.2.2.drop 0).take 60) [[], [], [], [], [], [], [], [], [], [], [], [], [], [], [], [], [], [], [], [], [], [], [], [], [], [], [], [], [], [], [], [], [], [], [], [], [], [], [], [], [], [], [], [], [], [], [], [], [], [], [], [], [], []] = true := by decide +kernel
theorem e_k46 : e_Ok 46 := by
  intro pc q hm
  have hm : (pc, q) ∈ (e_m 46).2.2.2.2.drop 0 := hm
  rcases e_Ok_c e_k46_0 hm with h | hm
  · exact h
  have hl : (e_m 46).2.2.2.2.length ≤ 60 := by decide +kernel
  rw [List.drop_eq_nil_of_le (by omega)] at hm
  cases hm
theorem e_j46 : e_OkM 46 := e_OkM_i (p1 := 1406) (p2 := 129) (by rfl) (by decide +kernel)
theorem e_k47_0 : e_okD (e_m 47).1.cls (e_m 47).1.name (e_m 47).2.1 (((e_m 47).2.2.2.2.drop 0).take 60) [[], [395], [248], [], [], [], [], [395], [256], [], [], [], [], [], [], [], [1432, 1434, 48], [], [], [421], [519], [], [422], [], [], [], [], [], [], [], [], [], [1436, 1438, 49], [], [], [395], [], [], [], [1412, 1413, 1414], [], [], [], [395], [259], [], [], [], [], [], [], [], [399], [332], [], [395], [252], [], [], []] = true := by decide +kernel
theorem e_k47_60 : e_okD (e_m 47).1.cls (e_m 47).1.name (e_m 47).2.1 (((e_m 47).2.2.2.2.drop 60).take 60) [[], [], [], [], [], [395], [256], [], [], [], [], []] = true := by decide +kernel
theorem e_k47 : e_Ok 47 := by
  intro pc q hm
  have hm : (pc, q) ∈ (e_m 47).2.2.2.2.drop 0 := hm
  rcases e_Ok_c e_k47_0 hm with h | hm
  · exact h
  rcases e_Ok_c e_k47_60 hm with h | hm
  · exact h
  have hl : (e_m 47).2.2.2.2.length ≤ 120 := by decide +kernel
  rw [List.drop_eq_nil_of_le (by omega)] at hm
  cases hm
theorem e_j47 : e_OkM 47 := e_OkM_i (p1 := 1431) (p2 := 129) (by rfl) (by decide +kernel)
theorem e_k48_0 : e_okD (e_m 48).1.cls (e_m 48).1.name (e_m 48).2.1 (((e_m 48).2.2.2.2.drop 0).take 60) [[], [421], [519], [], [422], [], [], [], [], [], [395], [1399, 1400, 1401], [], [], [421], [519], [], [422], [], [], [], [], [], [], [], [], [], [], [], [], []] = true := by decide +kernel
theorem e_k48 : e_Ok 48 := by
  intro pc q hm
  have hm : (pc, q) ∈ (e_m 48).2.2.2.2.drop 0 := hm
  rcases e_Ok_c e_k48_0 hm with h | hm
  · exact h
  have hl : (e_m 48).2.2.2.2.length ≤ 60 := by decide +kernel
  rw [List.drop_eq_nil_of_le (by omega)] at hm
  cases hm
theorem e_j48 : e_OkM 48 := e_OkM_i (p1 := 1435) (p2 := 129) (by rfl) (by decide +kernel)
theorem e_k49_0 : e_okD (e_m 49).1.cls (e_m 49).1.name (e_m 49).2.1 (((e_m 49).2.2.2.2.drop 0).take 60) [[], [], [], [], [], [], [395], [1399, 1400, 1401], [], [], [], [], [], [], [], [], [], [1440, 1441], [], [], [], [], [], [], [], [], [], [], [], [], [], [], [], [], [], [], [], [], [], [], [], [], [395], [1399, 1400, 1401], [], [], [], [], [], [], [], [], [], [1440, 1441], [], [], [], [], [], []] = true := by decide +kernel
theorem e_k49_60 : e_okD (e_m 49).1.cls (e_m 49).1.name (e_m 49).2.1 (((e_m 49).2.2.2.2.drop 60).take 60) [[], [], [], [], [], [], [], [], [], [], [], []] = true := by decide +kernel
theorem e_k49 : e_Ok 49 := by
  intro pc q hm
  have hm : (pc, q) ∈ (e_m 49).2.2.2.2.drop 0 := hm
  rcases e_Ok_c e_k49_0 hm with h | hm
  · exact h
  rcases e_Ok_c e_k49_60 hm with h | hm
  · exact h
  have hl : (e_m 49).2.2.2.2.length ≤ 120 := by decide +kernel
  rw [List.drop_eq_nil_of_le (by omega)] at hm
  cases hm
theorem e_j49 : e_OkM 49 := e_OkM_i (p1 := 1439) (p2 := 129) (by rfl) (by decide +kernel)
theorem e_k50_0 : e_okD (e_m 50).1.cls (e_m 50).1.name (e_m 50).2.1 (((e_m 50).2.2.2.2.drop 0).take 60) [[], [], [], [], [], [], [], [], [], [], [], [], [], [], [], [], [], [], [], [], [], [], [], [], [], [], [], [], [], [], [], [], [], [], [], [], [], [], [], [], [], [], [], []] = true := by decide +kernel
theorem e_k50 : e_Ok 50 := by
  intro pc q hm
  have hm : (pc, q) ∈ (e_m 50).2.2.2.2.drop 0 := hm
  rcases e_Ok_c e_k50_0 hm with h | hm
  · exact h
  have hl : (e_m 50).2.2.2.2.length ≤ 60 := by decide +kernel
  rw [List.drop_eq_nil_of_le (by omega)] at hm
  cases hm
theorem e_j50 : e_OkM 50 := e_OkM_i (p1 := 1442) (p2 := 129) (by rfl) (by decide +kernel)
theorem e_k51_0 : e_okD (e_m 51).1.cls (e_m 51).1.name (e_m 51).2.1 (((e_m 51).2.2.2.2.drop 0).take 60) [[], [], [], [], [421], [519], [], [422], [], [], [], [], [], [], [], [], [], [], [421], [536], [], [], [], [], [395], [], [1395, 1396, 1397], [], [], [], [], [], [1447], [], [], [], [], [], [397], [], [1448, 1449, 1450], [], [], [397], [298], [], [], [397], [], [421], [], [395], [1452, 1453, 1454], [], [401], [], [], [413], [], [395]] = true := by decide +kernel
theorem e_k51_60 : e_okD (e_m 51).1.cls (e_m 51).1.name (e_m 51).2.1 (((e_m 51).2.2.2.2.drop 60).take 60) [[252], [], [395], [248], [], [], [], [], [], [397], [298], [1091, 1092, 1093], [], [397], [], [1448, 1449, 1450], [], [], [], [], [], [], [], [395], [1399, 1400, 1401], [], [], [], [], [], [], [395], [], [397], [], [], [1481, 1482, 1483], [1407, 1408, 1409], [], [395], [], [], [], [1412, 1413, 1414], [], []] = true := by decide +kernel
theorem e_k51 : e_Ok 51 := by
  intro pc q hm
  have hm : (pc, q) ∈ (e_m 51).2.2.2.2.drop 0 := hm
  rcases e_Ok_c e_k51_0 hm with h | hm
  · exact h
  rcases e_Ok_c e_k51_60 hm with h | hm
  · exact h
  have hl : (e_m 51).2.2.2.2.length ≤ 120 := by decide +kernel
  rw [List.drop_eq_nil_of_le (by omega)] at hm
  cases hm
theorem e_j51 : e_OkM 51 := e_OkM_i (p1 := 1446) (p2 := 129) (by rfl) (by decide +kernel)
theorem e_k52_0 : e_okD (e_m 52).1.cls (e_m 52).1.name (e_m 52).2.1 (((e_m 52).2.2.2.2.drop 0).take 60) [[], [421], [519], [], [422], [], [], [], [], [], [395], [], [], [], [], [], [], [1395, 1396, 1397], [], [], [], [], [], [], [], [], [], [397], [], [], [], [395], [1399, 1400, 1401], [1490, 1491, 1492], [], [395], [1399, 1400, 1401], [], [], [], [395], [1399, 1400, 1401], [], [], [395], [], [397], [], [], [1494, 1495, 1496], [1407, 1408, 1409], [], [395], [], [], [], [1412, 1413, 1414], [], []] = true := by decide +kernel
theorem e_k52 : e_Ok 52 := by
  intro pc q hm
  have hm : (pc, q) ∈ (e_m 52).2.2.2.2.drop 0 := hm
  rcases e_Ok_c e_k52_0 hm with h | hm
  · exact h
  have hl : (e_m 52).2.2.2.2.length ≤ 60 := by decide +kernel
  rw [List.drop_eq_nil_of_le (by omega)] at hm
  cases hm
theorem e_j52 : e_OkM 52 := e_OkM_i (p1 := 1489) (p2 := 129) (by rfl) (by decide +kernel)
theorem e_k53_0 : e_okD (e_m 53).1.cls (e_m 53).1.name (e_m 53).2.1 (((e_m 53).2.2.2.2.drop 0).take 60) [[], [395], [], [], [], [], [], [], [], [], [], [], [], [1395, 1396, 1397], [], [], [], [], [], [], [397], [], [421], [], [397], [], [1502, 1503, 1504], [1506, 1473, 1474], [], [], [], [], [], [395], [1399, 1400, 1401], [], [], [395], [], [1407, 1408, 1409], [], [395], [], [], [], [1412, 1413, 1414], [], [], [], [395], [], [], [], [], [], [], [1395, 1396, 1397], [], [], []] = true := by decide +kernel
theorem e_k53_60 : e_okD (e_m 53).1.cls (e_m 53).1.name (e_m 53).2.1 (((e_m 53).2.2.2.2.drop 60).take 60) [[], [], [], [], [], [], [395], [1399, 1400, 1401], [], [], [395], [1399, 1400, 1401], [], [], [], [], [], [397], [], [], [], [1490, 1491, 1492], [], [395], [1399, 1400, 1401], [], [], [], [395], [], [397], [], [], [1494, 1495, 1496], [1407, 1408, 1409], [], [395], [], [], [], [1412, 1413, 1414], [], []] = true := by decide +kernel
theorem e_k53 : e_Ok 53 := by
  intro pc q hm
  have hm : (pc, q) ∈ (e_m 53).2.2.2.2.drop 0 := hm
  rcases e_Ok_c e_k53_0 hm with h | hm
  · exact h
  rcases e_Ok_c e_k53_60 hm with h | hm
  · exact h
  have hl : (e_m 53).2.2.2.2.length ≤ 120 := by decide +kernel
  rw [List.drop_eq_nil_of_le (by omega)] at hm
  cases hm
theorem e_j53 : e_OkM 53 := e_OkM_i (p1 := 1501) (p2 := 129) (by rfl) (by decide +kernel)
