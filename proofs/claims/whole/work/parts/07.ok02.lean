set_option maxRecDepth 100000
theorem e_k34_0 : e_okD (e_m 34).1.cls (e_m 34).1.name (e_m 34).2.1 (((e_m 34).2.2.2.2.drop 0).take 60) [[], [], [], [], [], [303], [], [], [], [], [303], [], [], [], [], [], [297], [], [], [], [], [], [], [], [303], [], [], [], [], [1472, 1473, 1474], [], [], [], [303], [], [], [302], [], [], [1476, 847, 846, 148], [], [303], [], [], [], [], [], [], [297], [], [], [297], [], []] = true := by decide +kernel
theorem e_k34 : e_Ok 34 := by
  intro pc q hm
  have hm : (pc, q) ∈ (e_m 34).2.2.2.2.drop 0 := hm
  rcases e_Ok_c e_k34_0 hm with h | hm
  · exact h
  have hl : (e_m 34).2.2.2.2.length ≤ 60 := by decide +kernel
  rw [List.drop_eq_nil_of_le (by omega)] at hm
  cases hm
theorem e_j34 : e_OkM 34 := e_OkM_i (p1 := 1471) (p2 := 131) (by rfl) (by decide +kernel)
theorem e_k35_0 : e_okD (e_m 35).1.cls (e_m 35).1.name (e_m 35).2.1 (((e_m 35).2.2.2.2.drop 0).take 60) [[], [240, 162, 163], [], [241, 242, 130], [], [244, 243], [395], [], [289, 290, 131], [], [292, 291], [397], [], [315, 316, 132], [], [318, 317], [399], [], [372, 373, 133], [], [375, 374], [401], [], [], [234], [403], [], [], [234], [419], [], [399], [388, 389, 390], []] = true := by decide +kernel
theorem e_k35 : e_Ok 35 := by
  intro pc q hm
  have hm : (pc, q) ∈ (e_m 35).2.2.2.2.drop 0 := hm
  rcases e_Ok_c e_k35_0 hm with h | hm
  · exact h
  have hl : (e_m 35).2.2.2.2.length ≤ 60 := by decide +kernel
  rw [List.drop_eq_nil_of_le (by omega)] at hm
  cases hm
theorem e_j35 : e_OkM 35 := e_OkM_i (p1 := 239) (p2 := 129) (by rfl) (by decide +kernel)
theorem e_k36_0 : e_okD (e_m 36).1.cls (e_m 36).1.name (e_m 36).2.1 (((e_m 36).2.2.2.2.drop 0).take 60) [[], [417], [], [], [], [], [], [419], [], [420], [], [417], [], [], [], [], [], [], [], [417], [], [], [417], [], []] = true := by decide +kernel
theorem e_k36 : e_Ok 36 := by
  intro pc q hm
  have hm : (pc, q) ∈ (e_m 36).2.2.2.2.drop 0 := hm
  rcases e_Ok_c e_k36_0 hm with h | hm
  · exact h
  have hl : (e_m 36).2.2.2.2.length ≤ 60 := by decide +kernel
  rw [List.drop_eq_nil_of_le (by omega)] at hm
  cases hm
theorem e_j36 : e_OkM 36 := e_OkM_i (p1 := 700) (p2 := 129) (by rfl) (by decide +kernel)
theorem e_k37_0 : e_okD (e_m 37).1.cls (e_m 37).1.name (e_m 37).2.1 (((e_m 37).2.2.2.2.drop 0).take 60) [[], [], [407], [], [], [409], [], [], [411], [], [], [413], [], [], [405], [], [395], [], [248], [], [401], [], [379], [], [397], [], [709, 710, 711], [], [399], [388, 389, 390], []] = true := by decide +kernel
theorem e_k37 : e_Ok 37 := by
  intro pc q hm
  have hm : (pc, q) ∈ (e_m 37).2.2.2.2.drop 0 := hm
  rcases e_Ok_c e_k37_0 hm with h | hm
  · exact h
  have hl : (e_m 37).2.2.2.2.length ≤ 60 := by decide +kernel
  rw [List.drop_eq_nil_of_le (by omega)] at hm
  cases hm
theorem e_j37 : e_OkM 37 := e_OkM_i (p1 := 708) (p2 := 129) (by rfl) (by decide +kernel)
theorem e_k38_0 : e_okD (e_m 38).1.cls (e_m 38).1.name (e_m 38).2.1 (((e_m 38).2.2.2.2.drop 0).take 60) [[], [], [421], [], [], [407], [], [397], [], [709, 710, 711], [], [399], [], [421], [717, 718, 719], [], [], [1035, 1037, 1], []] = true := by decide +kernel
theorem e_k38 : e_Ok 38 := by
  intro pc q hm
  have hm : (pc, q) ∈ (e_m 38).2.2.2.2.drop 0 := hm
  rcases e_Ok_c e_k38_0 hm with h | hm
  · exact h
  have hl : (e_m 38).2.2.2.2.length ≤ 60 := by decide +kernel
  rw [List.drop_eq_nil_of_le (by omega)] at hm
  cases hm
theorem e_j38 : e_OkM 38 := e_OkM_i (p1 := 716) (p2 := 129) (by rfl) (by decide +kernel)
theorem e_k39_0 : e_okD (e_m 39).1.cls (e_m 39).1.name (e_m 39).2.1 (((e_m 39).2.2.2.2.drop 0).take 60) [[], [], [], [], [], [], [], [397], [], [1604, 1605, 1606], []] = true := by decide +kernel
theorem e_k39 : e_Ok 39 := by
  intro pc q hm
  have hm : (pc, q) ∈ (e_m 39).2.2.2.2.drop 0 := hm
  rcases e_Ok_c e_k39_0 hm with h | hm
  · exact h
  have hl : (e_m 39).2.2.2.2.length ≤ 60 := by decide +kernel
  rw [List.drop_eq_nil_of_le (by omega)] at hm
  cases hm
theorem e_j39 : e_OkM 39 := e_OkM_i (p1 := 1603) (p2 := 129) (by rfl) (by decide +kernel)
theorem e_k40_0 : e_okD (e_m 40).1.cls (e_m 40).1.name (e_m 40).2.1 (((e_m 40).2.2.2.2.drop 0).take 60) [[], [], [], [], [], [], [407], [], [], [], [395], [248], [], [], [], [], [], [421], [557], [], [395], [252], [], [], [], [490], [], [395], [256], [], [], [], [422], [], [], [], [421], [519], [], [422], [], [1387, 1389, 42], [409], [], [409], [], [], [], [407], [], [], [], [], [], [413], [], [], [413], [], []] = true := by decide +kernel
theorem e_k40_60 : e_okD (e_m 40).1.cls (e_m 40).1.name (e_m 40).2.1 (((e_m 40).2.2.2.2.drop 60).take 60) [[415], [], [], [415], [], [], []] = true := by decide +kernel
theorem e_k40 : e_Ok 40 := by
  intro pc q hm
  have hm : (pc, q) ∈ (e_m 40).2.2.2.2.drop 0 := hm
  rcases e_Ok_c e_k40_0 hm with h | hm
  · exact h
  rcases e_Ok_c e_k40_60 hm with h | hm
  · exact h
  have hl : (e_m 40).2.2.2.2.length ≤ 120 := by decide +kernel
  rw [List.drop_eq_nil_of_le (by omega)] at hm
  cases hm
theorem e_j40 : e_OkM 40 := e_OkM_i (p1 := 1386) (p2 := 129) (by rfl) (by decide +kernel)
theorem e_k41_0 : e_okD (e_m 41).1.cls (e_m 41).1.name (e_m 41).2.1 (((e_m 41).2.2.2.2.drop 0).take 60) [[], [], [], [], [], [], [], [], [1391, 1393, 43], [], [], [], [], [], [], [1416, 1418, 44], [], [], [], [], [], [], [], [], [], [1428, 1430, 47], [], [], [], [], [], [], [], [], [], [1443, 1445, 50], [], [], [], [], [], [], [1486, 1488, 54], [], [], [], [], [], [], [1498, 1500, 55], [], [], [], [], [], [], [1507, 1509, 56], [], [], []] = true := by decide +kernel
theorem e_k41_60 : e_okD (e_m 41).1.cls (e_m 41).1.name (e_m 41).2.1 (((e_m 41).2.2.2.2.drop 60).take 60) [[], [], [], [1512, 1514, 57], [], [], [], [], [], [], [1546, 1548, 60], [], [], [], [1550, 1552, 61], []] = true := by decide +kernel
theorem e_k41 : e_Ok 41 := by
  intro pc q hm
  have hm : (pc, q) ∈ (e_m 41).2.2.2.2.drop 0 := hm
  rcases e_Ok_c e_k41_0 hm with h | hm
  · exact h
  rcases e_Ok_c e_k41_60 hm with h | hm
  · exact h
  have hl : (e_m 41).2.2.2.2.length ≤ 120 := by decide +kernel
  rw [List.drop_eq_nil_of_le (by omega)] at hm
  cases hm
theorem e_j41 : e_OkM 41 := e_OkM_i (p1 := 1390) (p2 := 129) (by rfl) (by decide +kernel)
theorem e_k42_0 : e_okD (e_m 42).1.cls (e_m 42).1.name (e_m 42).2.1 (((e_m 42).2.2.2.2.drop 0).take 60) [[], [], [], [395], [], [421], [519], [], [422], [], [], [], [], [1407, 1408, 1409], [], [], [395], [], [421], [519], [], [422], [], [], [], [], [], [], [421], [519], [], [422], [], [], [], [], [], [1407, 1408, 1409], [], [], [395], [], [1407, 1408, 1409], [], [], [395], [], [395], [269], [], [1420, 1422, 45], [], [1407, 1408, 1409], [], [], [395], [269], [], [1420, 1422, 45], []] = true := by decide +kernel
theorem e_k42_60 : e_okD (e_m 42).1.cls (e_m 42).1.name (e_m 42).2.1 (((e_m 42).2.2.2.2.drop 60).take 60) [[395], [1399, 1400, 1401], [], [], [], [395], [1399, 1400, 1401], [], [], [], [395], [], [395], [], [1395, 1396, 1397], [1407, 1408, 1409], [], [], [1424, 1426, 46], [], [], [395], [269], [], [1420, 1422, 45], [], [], [], [421], [519], [], [422], [], [], [], [], [], [], [], [395], [], [], [], [1412, 1413, 1414], [], []] = true := by decide +kernel
theorem e_k42 : e_Ok 42 := by
  intro pc q hm
  have hm : (pc, q) ∈ (e_m 42).2.2.2.2.drop 0 := hm
  rcases e_Ok_c e_k42_0 hm with h | hm
  · exact h
  rcases e_Ok_c e_k42_60 hm with h | hm
  · exact h
  have hl : (e_m 42).2.2.2.2.length ≤ 120 := by decide +kernel
  rw [List.drop_eq_nil_of_le (by omega)] at hm
  cases hm
theorem e_j42 : e_OkM 42 := e_OkM_i (p1 := 1419) (p2 := 129) (by rfl) (by decide +kernel)
theorem e_k43_0 : e_okD (e_m 43).1.cls (e_m 43).1.name (e_m 43).2.1 (((e_m 43).2.2.2.2.drop 0).take 60) [[], [395], [248], [], [], [], [], [], [421], [519], [], [422], [], [], [], [], []] = true := by decide +kernel
theorem e_k43 : e_Ok 43 := by
  intro pc q hm
  have hm : (pc, q) ∈ (e_m 43).2.2.2.2.drop 0 := hm
  rcases e_Ok_c e_k43_0 hm with h | hm
  · exact h
  have hl : (e_m 43).2.2.2.2.length ≤ 60 := by decide +kernel
  rw [List.drop_eq_nil_of_le (by omega)] at hm
  cases hm
theorem e_j43 : e_OkM 43 := e_OkM_i (p1 := 1423) (p2 := 129) (by rfl) (by decide +kernel)
theorem e_k44_0 : e_okD (e_m 44).1.cls (e_m 44).1.name (e_m 44).2.1 (((e_m 44).2.2.2.2.drop 0).take 60) [[], [395], [1399, 1400, 1401], [], [], [395], [1399, 1400, 1401], [], [], [395], [], [1407, 1408, 1409], [], [395], [], [1407, 1408, 1409], []] = true := by decide +kernel
theorem e_k44 : e_Ok 44 := by
  intro pc q hm
  have hm : (pc, q) ∈ (e_m 44).2.2.2.2.drop 0 := hm
  rcases e_Ok_c e_k44_0 hm with h | hm
  · exact h
  have hl : (e_m 44).2.2.2.2.length ≤ 60 := by decide +kernel
  rw [List.drop_eq_nil_of_le (by omega)] at hm
  cases hm
theorem e_j44 : e_OkM 44 := e_OkM_i (p1 := 1427) (p2 := 129) (by rfl) (by decide +kernel)
theorem e_k45_0 : e_okD (e_m 45).1.cls (e_m 45).1.name (e_m 45).2.1 (((e_m 45).2.2.2.2.drop 0).take 60) [[], [395], [], [1395, 1396, 1397], [], [], [], [], [], [], [], [], [], [], [], [], [395], [1399, 1400, 1401], [], [], [395], [], [], [], [], [], [], [], [], [395], [1399, 1400, 1401], [], [1404, 1405], [1407, 1408, 1409], [], [395], [], [], [], [1412, 1413, 1414], [], []] = true := by decide +kernel
theorem e_k45 : e_Ok 45 := by
  intro pc q hm
  have hm : (pc, q) ∈ (e_m 45).2.2.2.2.drop 0 := hm
  rcases e_Ok_c e_k45_0 hm with h | hm
  · exact h
  have hl : (e_m 45).2.2.2.2.length ≤ 60 := by decide +kernel
  rw [List.drop_eq_nil_of_le (by omega)] at hm
  cases hm
theorem e_j45 : e_OkM 45 := e_OkM_i (p1 := 1394) (p2 := 129) (by rfl) (by decide +kernel)
