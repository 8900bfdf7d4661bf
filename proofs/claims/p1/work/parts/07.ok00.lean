/-- a method's rows are as the tables have them -/
def e_Ok (i : Nat) : Prop := ∀ (pc : Nat) (q : eI), (pc, q) ∈ (e_m i).2.2.2.2 → decode (e_m i).2.1 pc = .ok (q.1, q.2.1) ∧ ∃ p, e_okI (e_m i).1.cls (e_m i).1.name pc q p = true
def e_OkM (j : Nat) : Prop := ∃ ps, e_okM j (e_pn j) ps = true
theorem e_Ok_c {i n k : Nat} {ps : List (List Nat)} (h : e_okD (e_m i).1.cls (e_m i).1.name (e_m i).2.1 (((e_m i).2.2.2.2.drop n).take k) ps = true) {pc : Nat} {q : eI} (hm : (pc, q) ∈ (e_m i).2.2.2.2.drop n) : (decode (e_m i).2.1 pc = .ok (q.1, q.2.1) ∧ ∃ p, e_okI (e_m i).1.cls (e_m i).1.name pc q p = true) ∨ (pc, q) ∈ (e_m i).2.2.2.2.drop (n + k) := by
  rw [← List.take_append_drop k ((e_m i).2.2.2.2.drop n), List.drop_drop] at hm
  rcases List.mem_append.mp hm with h1 | h1
  · exact Or.inl (e_okD_f h h1)
  · exact Or.inr h1
theorem e_OkM_i {j p1 p2 : Nat} (h1 : lw_tbl[p1]? = some (.code (e_m j).1 (e_m j).2.1 (e_m j).2.2.1 (e_m j).2.2.2.1)) (h : (e_at p2 (.initialized (e_m j).1.cls) && (decide ((e_m j).1.cls ≠ "java/lang/invoke/MethodHandle") && (decide ((e_m j).1.cls ≠ "java/lang/invoke/VarHandle") && (decide ((parseMethodDescriptor (e_m j).1.desc).map (fun d => d.parameters.length) = some (e_pn j)) && (decide ((e_m j).2.2.1 ≤ 45) && (plainName (e_m j).1.cls || (j == 997 || j == 998))))))) = true) : e_OkM j := by
  refine ⟨[p1, p2], ?_⟩
  rw [Bool.and_eq_true] at h
  have h3 : e_at p1 (.code (e_m j).1 (e_m j).2.1 (e_m j).2.2.1 (e_m j).2.2.2.1) = true := by
    unfold e_at
    rw [decide_eq_true h1]
    rfl
  unfold e_okM
  rw [Bool.and_eq_true]
  refine ⟨?_, h.2⟩
  simp only [e_ats, h3, h.1, Bool.and_self]
set_option maxRecDepth 100000
theorem e_k0_0 : e_okD (e_m 0).1.cls (e_m 0).1.name (e_m 0).2.1 (((e_m 0).2.2.2.2.drop 0).take 60) [[], [343, 152, 153], [], [], [348], []] = true := by decide +kernel
theorem e_k0 : e_Ok 0 := by
  intro pc q hm
  have hm : (pc, q) ∈ (e_m 0).2.2.2.2.drop 0 := hm
  rcases e_Ok_c e_k0_0 hm with h | hm
  · exact h
  have hl : (e_m 0).2.2.2.2.length ≤ 60 := by decide +kernel
  rw [List.drop_eq_nil_of_le (by omega)] at hm
  cases hm
theorem e_j0 : e_OkM 0 := e_OkM_i (p1 := 342) (p2 := 131) (by rfl) (by decide +kernel)
theorem e_k1_0 : e_okD (e_m 1).1.cls (e_m 1).1.name (e_m 1).2.1 (((e_m 1).2.2.2.2.drop 0).take 60) [[], [409, 152, 153], [], [410, 161, 127], [], [], [163, 411], [416], [], [410, 161, 127], [], [], [163, 411], [420], [], [410, 161, 127], [], [], [163, 411], [423], [], [410, 161, 127], [], [], [163, 411], [426], [], [410, 161, 127], [], [], [163, 411], [428], [], [410, 161, 127], [], [], [163, 411], [430], [], [410, 161, 127], [], [], [163, 411], [433], []] = true := by decide +kernel
theorem e_k1 : e_Ok 1 := by
  intro pc q hm
  have hm : (pc, q) ∈ (e_m 1).2.2.2.2.drop 0 := hm
  rcases e_Ok_c e_k1_0 hm with h | hm
  · exact h
  have hl : (e_m 1).2.2.2.2.length ≤ 60 := by decide +kernel
  rw [List.drop_eq_nil_of_le (by omega)] at hm
  cases hm
theorem e_j1 : e_OkM 1 := e_OkM_i (p1 := 408) (p2 := 134) (by rfl) (by decide +kernel)
theorem e_k2_0 : e_okD (e_m 2).1.cls (e_m 2).1.name (e_m 2).2.1 (((e_m 2).2.2.2.2.drop 0).take 60) [[], [], [], [], [412], [], [], [], [], [412], [], [], [], [], []] = true := by decide +kernel
theorem e_k2 : e_Ok 2 := by
  intro pc q hm
  have hm : (pc, q) ∈ (e_m 2).2.2.2.2.drop 0 := hm
  rcases e_Ok_c e_k2_0 hm with h | hm
  · exact h
  have hl : (e_m 2).2.2.2.2.length ≤ 60 := by decide +kernel
  rw [List.drop_eq_nil_of_le (by omega)] at hm
  cases hm
theorem e_j2 : e_OkM 2 := e_OkM_i (p1 := 824) (p2 := 134) (by rfl) (by decide +kernel)
theorem e_k3_0 : e_okD (e_m 3).1.cls (e_m 3).1.name (e_m 3).2.1 (((e_m 3).2.2.2.2.drop 0).take 60) [[], [459, 152, 153], [], [460, 161, 127], [], [], [163, 461], [469], [], [460, 161, 127], [], [], [163, 461], [470], []] = true := by decide +kernel
theorem e_k3 : e_Ok 3 := by
  intro pc q hm
  have hm : (pc, q) ∈ (e_m 3).2.2.2.2.drop 0 := hm
  rcases e_Ok_c e_k3_0 hm with h | hm
  · exact h
  have hl : (e_m 3).2.2.2.2.length ≤ 60 := by decide +kernel
  rw [List.drop_eq_nil_of_le (by omega)] at hm
  cases hm
theorem e_j3 : e_OkM 3 := e_OkM_i (p1 := 458) (p2 := 135) (by rfl) (by decide +kernel)
theorem e_k4_0 : e_okD (e_m 4).1.cls (e_m 4).1.name (e_m 4).2.1 (((e_m 4).2.2.2.2.drop 0).take 60) [[], [403, 152, 153], [], [], [582], [], [404, 405, 134], [], [407, 406], [555], [], [454, 455, 135], [], [457, 456], [557], [], [482, 483, 136], [], [], [485, 484], [559], [], [541, 161, 127], [], [], [163, 542], [561], [], [541, 161, 127], [], [], [163, 542], [565], [], [541, 161, 127], [], [], [163, 542], [580], [], [559], [543, 544, 545], []] = true := by decide +kernel
theorem e_k4 : e_Ok 4 := by
  intro pc q hm
  have hm : (pc, q) ∈ (e_m 4).2.2.2.2.drop 0 := hm
  rcases e_Ok_c e_k4_0 hm with h | hm
  · exact h
  have hl : (e_m 4).2.2.2.2.length ≤ 60 := by decide +kernel
  rw [List.drop_eq_nil_of_le (by omega)] at hm
  cases hm
theorem e_j4 : e_OkM 4 := e_OkM_i (p1 := 402) (p2 := 133) (by rfl) (by decide +kernel)
theorem e_k5_0 : e_okD (e_m 5).1.cls (e_m 5).1.name (e_m 5).2.1 (((e_m 5).2.2.2.2.drop 0).take 60) [[], [578], [], [], [], [], [], [580], [], [581], [], [578], [], [], [], [], [711, 552, 553], [], [], [578], [], [], [578], [], []] = true := by decide +kernel
theorem e_k5 : e_Ok 5 := by
  intro pc q hm
  have hm : (pc, q) ∈ (e_m 5).2.2.2.2.drop 0 := hm
  rcases e_Ok_c e_k5_0 hm with h | hm
  · exact h
  have hl : (e_m 5).2.2.2.2.length ≤ 60 := by decide +kernel
  rw [List.drop_eq_nil_of_le (by omega)] at hm
  cases hm
theorem e_j5 : e_OkM 5 := e_OkM_i (p1 := 710) (p2 := 133) (by rfl) (by decide +kernel)
theorem e_k6_0 : e_okD (e_m 6).1.cls (e_m 6).1.name (e_m 6).2.1 (((e_m 6).2.2.2.2.drop 0).take 60) [[], [159, 152, 153], [], [160, 161, 127], [], [], [163, 162], [228], [], [160, 161, 127], [], [], [163, 162], [241], [], [160, 161, 127], [], [], [163, 162], [243], [], [160, 161, 127], [], [], [163, 162], [246], [], [160, 161, 127], [], [], [163, 162], [251], [], [], [174], [255], [], [], [], [], [], [], [255], [], [174, 176, 129], [], [178, 177], [], [], [], [], [], [174], [261], [], [], [], [], [], []] = true := by decide +kernel
theorem e_k6_60 : e_okD (e_m 6).1.cls (e_m 6).1.name (e_m 6).2.1 (((e_m 6).2.2.2.2.drop 60).take 60) [[261], [], [174, 176, 129], [], [178, 177], [], [], [], [], [160, 161, 127], [], [], [163, 162], [262], [], [160, 161, 127], [], [], [163, 162], [267], [], [160, 161, 127], [], [], [163, 162], [272], [], [160, 161, 127], [], [], [163, 162], [279], [], [], [321], [282], [], [], [321], [283], []] = true := by decide +kernel
theorem e_k6 : e_Ok 6 := by
  intro pc q hm
  have hm : (pc, q) ∈ (e_m 6).2.2.2.2.drop 0 := hm
  rcases e_Ok_c e_k6_0 hm with h | hm
  · exact h
  rcases e_Ok_c e_k6_60 hm with h | hm
  · exact h
  have hl : (e_m 6).2.2.2.2.length ≤ 120 := by decide +kernel
  rw [List.drop_eq_nil_of_le (by omega)] at hm
  cases hm
theorem e_j6 : e_OkM 6 := e_OkM_i (p1 := 158) (p2 := 126) (by rfl) (by decide +kernel)
theorem e_k7_0 : e_okD (e_m 7).1.cls (e_m 7).1.name (e_m 7).2.1 (((e_m 7).2.2.2.2.drop 0).take 60) [[], [261], [], [], [], [], [], [], [], [], [], []] = true := by decide +kernel
theorem e_k7 : e_Ok 7 := by
  intro pc q hm
  have hm : (pc, q) ∈ (e_m 7).2.2.2.2.drop 0 := hm
  rcases e_Ok_c e_k7_0 hm with h | hm
  · exact h
  have hl : (e_m 7).2.2.2.2.length ≤ 60 := by decide +kernel
  rw [List.drop_eq_nil_of_le (by omega)] at hm
  cases hm
theorem e_j7 : e_OkM 7 := e_OkM_i (p1 := 367) (p2 := 126) (by rfl) (by decide +kernel)
theorem e_k8_0 : e_okD (e_m 8).1.cls (e_m 8).1.name (e_m 8).2.1 (((e_m 8).2.2.2.2.drop 0).take 60) [[], [327, 152, 153], [], [], [328], []] = true := by decide +kernel
theorem e_k8 : e_Ok 8 := by
  intro pc q hm
  have hm : (pc, q) ∈ (e_m 8).2.2.2.2.drop 0 := hm
  rcases e_Ok_c e_k8_0 hm with h | hm
  · exact h
  have hl : (e_m 8).2.2.2.2.length ≤ 60 := by decide +kernel
  rw [List.drop_eq_nil_of_le (by omega)] at hm
  cases hm
theorem e_j8 : e_OkM 8 := e_OkM_i (p1 := 326) (p2 := 130) (by rfl) (by decide +kernel)
theorem e_k9_0 : e_okD (e_m 9).1.cls (e_m 9).1.name (e_m 9).2.1 (((e_m 9).2.2.2.2.drop 0).take 60) [[], [], [328], [], [], [329], [], [], [330], [], [865, 867, 7], [], [886, 888, 10], [], [898, 900, 12], [], [903, 905, 13], [], [330], [], [], [], [329], [], [328], [236], [], [], [], [329], [330], [], [330], []] = true := by decide +kernel
theorem e_k9 : e_Ok 9 := by
  intro pc q hm
  have hm : (pc, q) ∈ (e_m 9).2.2.2.2.drop 0 := hm
  rcases e_Ok_c e_k9_0 hm with h | hm
  · exact h
  have hl : (e_m 9).2.2.2.2.length ≤ 60 := by decide +kernel
  rw [List.drop_eq_nil_of_le (by omega)] at hm
  cases hm
theorem e_j9 : e_OkM 9 := e_OkM_i (p1 := 864) (p2 := 130) (by rfl) (by decide +kernel)
theorem e_k10_0 : e_okD (e_m 10).1.cls (e_m 10).1.name (e_m 10).2.1 (((e_m 10).2.2.2.2.drop 0).take 60) [[], [330], [], [], [], [], [], [329], [], [328], [236], [], [], [], [328], [236], [330], [], [], [], [328], [230], [], [329], [], [], [], [], [], [], [], [], [], [], [329], [330], [], [], [], [], [329], [], [], [329], [], []] = true := by decide +kernel
theorem e_k10 : e_Ok 10 := by
  intro pc q hm
  have hm : (pc, q) ∈ (e_m 10).2.2.2.2.drop 0 := hm
  rcases e_Ok_c e_k10_0 hm with h | hm
  · exact h
  have hl : (e_m 10).2.2.2.2.length ≤ 60 := by decide +kernel
  rw [List.drop_eq_nil_of_le (by omega)] at hm
  cases hm
theorem e_j10 : e_OkM 10 := e_OkM_i (p1 := 872) (p2 := 130) (by rfl) (by decide +kernel)
theorem e_k11_0 : e_okD (e_m 11).1.cls (e_m 11).1.name (e_m 11).2.1 (((e_m 11).2.2.2.2.drop 0).take 60) [[], [], [], [], [328], [237], [], [], [], [869, 871, 8], [], [], [], [], [], [], [], [], [], [329], [], [], [330], [], []] = true := by decide +kernel
theorem e_k11 : e_Ok 11 := by
  intro pc q hm
  have hm : (pc, q) ∈ (e_m 11).2.2.2.2.drop 0 := hm
  rcases e_Ok_c e_k11_0 hm with h | hm
  · exact h
  have hl : (e_m 11).2.2.2.2.length ≤ 60 := by decide +kernel
  rw [List.drop_eq_nil_of_le (by omega)] at hm
  cases hm
theorem e_j11 : e_OkM 11 := e_OkM_i (p1 := 885) (p2 := 130) (by rfl) (by decide +kernel)
theorem e_k12_0 : e_okD (e_m 12).1.cls (e_m 12).1.name (e_m 12).2.1 (((e_m 12).2.2.2.2.drop 0).take 60) [[], [328], [], [], [], [869, 871, 8], [237], [], [], [], [], [328], [237], [], [], [], [], [869, 871, 8], [], [], [], [], [], [], [], [], [], [328], [247], [], [], [], [], [328], [242], [], [], [874, 552, 553], [], [328], [244], [], [], [], [], [], [], [], [], [], [], [328], [244], [], [], [], [874, 552, 553], [], [], []] = true := by decide +kernel
theorem e_k12_60 : e_okD (e_m 12).1.cls (e_m 12).1.name (e_m 12).2.1 (((e_m 12).2.2.2.2.drop 60).take 60) [[], [], [], [328], [252], [], [], [], [], [], [], [328], [], [], [], [874, 552, 553], [], [], [], [], [], [], [], [], [], [879, 880, 128, 881], [869, 871, 8], [], [], [], [], [], [], [], [], [328], [252], [], [], [], [], [], [], [], [882, 884, 9], [874, 552, 553], [], [], [], [328], [247], [], [], [874, 552, 553], [], [], []] = true := by decide +kernel
theorem e_k12 : e_Ok 12 := by
  intro pc q hm
  have hm : (pc, q) ∈ (e_m 12).2.2.2.2.drop 0 := hm
  rcases e_Ok_c e_k12_0 hm with h | hm
  · exact h
  rcases e_Ok_c e_k12_60 hm with h | hm
  · exact h
  have hl : (e_m 12).2.2.2.2.length ≤ 120 := by decide +kernel
  rw [List.drop_eq_nil_of_le (by omega)] at hm
  cases hm
theorem e_j12 : e_OkM 12 := e_OkM_i (p1 := 868) (p2 := 130) (by rfl) (by decide +kernel)
theorem e_k13_0 : e_okD (e_m 13).1.cls (e_m 13).1.name (e_m 13).2.1 (((e_m 13).2.2.2.2.drop 0).take 60) [[], [328], [], [], [], [869, 871, 8], [253], [], [], [], [], [328], [253], [], [], [], [328], [], [], [], [894, 896, 11], [], [], []] = true := by decide +kernel
theorem e_k13 : e_Ok 13 := by
  intro pc q hm
  have hm : (pc, q) ∈ (e_m 13).2.2.2.2.drop 0 := hm
  rcases e_Ok_c e_k13_0 hm with h | hm
  · exact h
  have hl : (e_m 13).2.2.2.2.length ≤ 60 := by decide +kernel
  rw [List.drop_eq_nil_of_le (by omega)] at hm
  cases hm
theorem e_j13 : e_OkM 13 := e_OkM_i (p1 := 889) (p2 := 130) (by rfl) (by decide +kernel)
theorem e_k14_0 : e_okD (e_m 14).1.cls (e_m 14).1.name (e_m 14).2.1 (((e_m 14).2.2.2.2.drop 0).take 60) [[], [], [], [], [869, 871, 8], [188], [], [], [], [], [188], [], [], [185], [], [], [], [882, 884, 9], [874, 552, 553], [], [], [], [], [], [882, 884, 9], [191], []] = true := by decide +kernel
theorem e_k14 : e_Ok 14 := by
  intro pc q hm
  have hm : (pc, q) ∈ (e_m 14).2.2.2.2.drop 0 := hm
  rcases e_Ok_c e_k14_0 hm with h | hm
  · exact h
  have hl : (e_m 14).2.2.2.2.length ≤ 60 := by decide +kernel
  rw [List.drop_eq_nil_of_le (by omega)] at hm
  cases hm
