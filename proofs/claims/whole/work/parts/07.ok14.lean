set_option maxRecDepth 100000
theorem e_k171_0 : e_okD (e_m 171).1.cls (e_m 171).1.name (e_m 171).2.1 (((e_m 171).2.2.2.2.drop 0).take 60) [[], [], [], [], [], [], [1657], [], [], [], [], [], [], [], [], [], [], [], [], [], [], [], [1659], [], [], [], [1648], [], [], [], [], [1649], [], [], [], [], [], [], [], [], [], [], [], [], [], [1660], [], [], [], [], [1997, 1999, 82], [], [], [], [], [], [], [], [], []] = true := by decide +kernel
theorem e_k171_60 : e_okD (e_m 171).1.cls (e_m 171).1.name (e_m 171).2.1 (((e_m 171).2.2.2.2.drop 60).take 60) [[1653], [], [], [], [], [1657], [], [], [], [], [], [], [], [], [], [], [], [], [2005, 2007, 84], [], [], [], [], [], [], [], [], [], [], [], [], []] = true := by decide +kernel
theorem e_k171 : e_Ok 171 := by
  intro pc q hm
  have hm : (pc, q) ∈ (e_m 171).2.2.2.2.drop 0 := hm
  rcases e_Ok_c e_k171_0 hm with h | hm
  · exact h
  rcases e_Ok_c e_k171_60 hm with h | hm
  · exact h
  have hl : (e_m 171).2.2.2.2.length ≤ 120 := by decide +kernel
  rw [List.drop_eq_nil_of_le (by omega)] at hm
  cases hm
theorem e_j171 : e_OkM 171 := e_OkM_i (p1 := 1996) (p2 := 137) (by rfl) (by decide +kernel)
theorem e_k172_0 : e_okD (e_m 172).1.cls (e_m 172).1.name (e_m 172).2.1 (((e_m 172).2.2.2.2.drop 0).take 60) [[], [], [], [1978, 1980, 78], [], [], [1657], [], [], [], [], [], [], [], [], [], [], [], [], [], [], [], [], [], [2009, 2011, 85], [], [1661], [], [], [1660], [], [1652], [], [], [], [], [], [], [], [], [], [], [], [], [], [], [], [], [], [], [], [], [], [], [1978, 1980, 78], [], [1997, 1999, 82], [], [], []] = true := by decide +kernel
theorem e_k172_60 : e_okD (e_m 172).1.cls (e_m 172).1.name (e_m 172).2.1 (((e_m 172).2.2.2.2.drop 60).take 60) [[], [], [], [], [], [], [], [], [], [1978, 1980, 78], [], [], [], [], [], [], [], [], [], [], [1978, 1980, 78], [], [1997, 1999, 82], [], [], [], [], [], [], [], [], [], [], [], [], [], [], [], [], [], [], [], [], [], [], [], [], [], [], [], [], [], [1974, 1976, 77], [], [], [1997, 1999, 82], [], [], [], []] = true := by decide +kernel
theorem e_k172_120 : e_okD (e_m 172).1.cls (e_m 172).1.name (e_m 172).2.1 (((e_m 172).2.2.2.2.drop 120).take 60) [[], [], [], [], [], [], []] = true := by decide +kernel
theorem e_k172 : e_Ok 172 := by
  intro pc q hm
  have hm : (pc, q) ∈ (e_m 172).2.2.2.2.drop 0 := hm
  rcases e_Ok_c e_k172_0 hm with h | hm
  · exact h
  rcases e_Ok_c e_k172_60 hm with h | hm
  · exact h
  rcases e_Ok_c e_k172_120 hm with h | hm
  · exact h
  have hl : (e_m 172).2.2.2.2.length ≤ 180 := by decide +kernel
  rw [List.drop_eq_nil_of_le (by omega)] at hm
  cases hm
theorem e_j172 : e_OkM 172 := e_OkM_i (p1 := 2008) (p2 := 137) (by rfl) (by decide +kernel)
theorem e_k173_0 : e_okD (e_m 173).1.cls (e_m 173).1.name (e_m 173).2.1 (((e_m 173).2.2.2.2.drop 0).take 60) [[], [1660], [], [], [], [1661], [], [], [], [], [1660], [], [], [1660], [], [1659], [], [], [1660], [], [], []] = true := by decide +kernel
theorem e_k173 : e_Ok 173 := by
  intro pc q hm
  have hm : (pc, q) ∈ (e_m 173).2.2.2.2.drop 0 := hm
  rcases e_Ok_c e_k173_0 hm with h | hm
  · exact h
  have hl : (e_m 173).2.2.2.2.length ≤ 60 := by decide +kernel
  rw [List.drop_eq_nil_of_le (by omega)] at hm
  cases hm
theorem e_j173 : e_OkM 173 := e_OkM_i (p1 := 2024) (p2 := 137) (by rfl) (by decide +kernel)
theorem e_k174_0 : e_okD (e_m 174).1.cls (e_m 174).1.name (e_m 174).2.1 (((e_m 174).2.2.2.2.drop 0).take 60) [[], [1660], [], [], [], [1659], [], [], [1660], [], [], [], [], [], [1660], [], [], [1660], []] = true := by decide +kernel
theorem e_k174 : e_Ok 174 := by
  intro pc q hm
  have hm : (pc, q) ∈ (e_m 174).2.2.2.2.drop 0 := hm
  rcases e_Ok_c e_k174_0 hm with h | hm
  · exact h
  have hl : (e_m 174).2.2.2.2.length ≤ 60 := by decide +kernel
  rw [List.drop_eq_nil_of_le (by omega)] at hm
  cases hm
theorem e_j174 : e_OkM 174 := e_OkM_i (p1 := 2028) (p2 := 137) (by rfl) (by decide +kernel)
theorem e_k175_0 : e_okD (e_m 175).1.cls (e_m 175).1.name (e_m 175).2.1 (((e_m 175).2.2.2.2.drop 0).take 60) [[], [], [], [], [], [], [2021, 2023, 88], [], [], [], []] = true := by decide +kernel
theorem e_k175 : e_Ok 175 := by
  intro pc q hm
  have hm : (pc, q) ∈ (e_m 175).2.2.2.2.drop 0 := hm
  rcases e_Ok_c e_k175_0 hm with h | hm
  · exact h
  have hl : (e_m 175).2.2.2.2.length ≤ 60 := by decide +kernel
  rw [List.drop_eq_nil_of_le (by omega)] at hm
  cases hm
theorem e_j175 : e_OkM 175 := e_OkM_i (p1 := 2020) (p2 := 137) (by rfl) (by decide +kernel)
theorem e_k176_0 : e_okD (e_m 176).1.cls (e_m 176).1.name (e_m 176).2.1 (((e_m 176).2.2.2.2.drop 0).take 60) [[], [], [], [1978, 1980, 78], [], [], [], [], [], [], [], [], [], [], [1648], [], [], [], [], [], [1978, 1980, 78], [], [], [], [], [1644], [], [], [], [], [], [1978, 1980, 78], [], [], [], [], [], [], [], [], [], [], [], [], [], [], [], [], [], [], [], [], [], [], [], [], [], [], []] = true := by decide +kernel
theorem e_k176 : e_Ok 176 := by
  intro pc q hm
  have hm : (pc, q) ∈ (e_m 176).2.2.2.2.drop 0 := hm
  rcases e_Ok_c e_k176_0 hm with h | hm
  · exact h
  have hl : (e_m 176).2.2.2.2.length ≤ 60 := by decide +kernel
  rw [List.drop_eq_nil_of_le (by omega)] at hm
  cases hm
theorem e_j176 : e_OkM 176 := e_OkM_i (p1 := 2016) (p2 := 137) (by rfl) (by decide +kernel)
theorem e_k177_0 : e_okD (e_m 177).1.cls (e_m 177).1.name (e_m 177).2.1 (((e_m 177).2.2.2.2.drop 0).take 60) [[], [], [], [], [], [], [], [], [], [1978, 1980, 78], [], [], [1653], [], [], [], [], [], [], [], [], [], [], [], [1978, 1980, 78], [], [], [], [], [], [], [], [], [], [1659], [], [], [1658], [], [], [], [], [], [], [], [], [], [], [], [1657], [], [], [1660], [], [], [1661], [], [1660], [], []] = true := by decide +kernel
theorem e_k177_60 : e_okD (e_m 177).1.cls (e_m 177).1.name (e_m 177).2.1 (((e_m 177).2.2.2.2.drop 60).take 60) [[1659], [], [], [1660], [], [], [], [], [], [], [1660], [], [], [], [1659], [], [], [1660], [], [], [], [], [], [], [], [], [], [2013, 2015, 86], [2017, 2019, 87], [], [], [], [], [2025, 2027, 89], [], [], [], [2025, 2027, 89], [], [], [], [1659], [], [], [2025, 2027, 89], [], [], [1659], [], [], [], [], [], [], [2025, 2027, 89], [], [], [2025, 2027, 89], [], []] = true := by decide +kernel
theorem e_k177_120 : e_okD (e_m 177).1.cls (e_m 177).1.name (e_m 177).2.1 (((e_m 177).2.2.2.2.drop 120).take 60) [[], [2025, 2027, 89], [], [], [2025, 2027, 89], [], [], [], [], [], [2025, 2027, 89], [], [], [], [1642], [], [], [], [], [], [], [], [], [1978, 1980, 78], [], [], [2025, 2027, 89], [], [], [], [2025, 2027, 89], [], [], [1650], [], [], [], [], [], [1650], [], [], [2025, 2027, 89], [], [], [1646], [], [], [], [], [], [1646], [], [], [2025, 2027, 89], [], [], [], [], []] = true := by decide +kernel
theorem e_k177_180 : e_okD (e_m 177).1.cls (e_m 177).1.name (e_m 177).2.1 (((e_m 177).2.2.2.2.drop 180).take 60) [[], [], [], [], [2025, 2027, 89], []] = true := by decide +kernel
theorem e_k177 : e_Ok 177 := by
  intro pc q hm
  have hm : (pc, q) ∈ (e_m 177).2.2.2.2.drop 0 := hm
  rcases e_Ok_c e_k177_0 hm with h | hm
  · exact h
  rcases e_Ok_c e_k177_60 hm with h | hm
  · exact h
  rcases e_Ok_c e_k177_120 hm with h | hm
  · exact h
  rcases e_Ok_c e_k177_180 hm with h | hm
  · exact h
  have hl : (e_m 177).2.2.2.2.length ≤ 240 := by decide +kernel
  rw [List.drop_eq_nil_of_le (by omega)] at hm
  cases hm
theorem e_j177 : e_OkM 177 := e_OkM_i (p1 := 2012) (p2 := 137) (by rfl) (by decide +kernel)
theorem e_k178_0 : e_okD (e_m 178).1.cls (e_m 178).1.name (e_m 178).2.1 (((e_m 178).2.2.2.2.drop 0).take 60) [[], [], [], [], [], [], [], [], [], [], [], [], [], [], [], [], [], [], [], [], [], [], [1962, 1964, 74], [], [], [], [], []] = true := by decide +kernel
theorem e_k178 : e_Ok 178 := by
  intro pc q hm
  have hm : (pc, q) ∈ (e_m 178).2.2.2.2.drop 0 := hm
  rcases e_Ok_c e_k178_0 hm with h | hm
  · exact h
  have hl : (e_m 178).2.2.2.2.length ≤ 60 := by decide +kernel
  rw [List.drop_eq_nil_of_le (by omega)] at hm
  cases hm
theorem e_j178 : e_OkM 178 := e_OkM_i (p1 := 2039) (p2 := 137) (by rfl) (by decide +kernel)
theorem e_k179_0 : e_okD (e_m 179).1.cls (e_m 179).1.name (e_m 179).2.1 (((e_m 179).2.2.2.2.drop 0).take 60) [[], [], [], [], [], [], [], [], []] = true := by decide +kernel
theorem e_k179 : e_Ok 179 := by
  intro pc q hm
  have hm : (pc, q) ∈ (e_m 179).2.2.2.2.drop 0 := hm
  rcases e_Ok_c e_k179_0 hm with h | hm
  · exact h
  have hl : (e_m 179).2.2.2.2.length ≤ 60 := by decide +kernel
  rw [List.drop_eq_nil_of_le (by omega)] at hm
  cases hm
theorem e_j179 : e_OkM 179 := e_OkM_i (p1 := 2035) (p2 := 137) (by rfl) (by decide +kernel)
