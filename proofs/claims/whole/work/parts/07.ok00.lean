/-- a method's rows are as the tables have them -/
def e_Ok (i : Nat) : Prop := ∀ (pc : Nat) (q : eI), (pc, q) ∈ (e_m i).2.2.2.2 → decode (e_m i).2.1 pc = .ok (q.1, q.2.1) ∧ ∃ p, e_okI (e_m i).1.cls (e_m i).1.name pc q p = true
def e_OkM (j : Nat) : Prop := ∃ ps, e_okM j (e_pn j) ps = true
theorem e_Ok_c {i n k : Nat} {ps : List (List Nat)} (h : e_okD (e_m i).1.cls (e_m i).1.name (e_m i).2.1 (((e_m i).2.2.2.2.drop n).take k) ps = true) {pc : Nat} {q : eI} (hm : (pc, q) ∈ (e_m i).2.2.2.2.drop n) : (decode (e_m i).2.1 pc = .ok (q.1, q.2.1) ∧ ∃ p, e_okI (e_m i).1.cls (e_m i).1.name pc q p = true) ∨ (pc, q) ∈ (e_m i).2.2.2.2.drop (n + k) := by
  rw [← List.take_append_drop k ((e_m i).2.2.2.2.drop n), List.drop_drop] at hm
  rcases List.mem_append.mp hm with h1 | h1
  · exact Or.inl (e_okD_f h h1)
  · exact Or.inr h1
theorem e_OkM_i {j p1 p2 : Nat} (h1 : lw_tbl[p1]? = some (.code (e_m j).1 (e_m j).2.1 (e_m j).2.2.1 (e_m j).2.2.2.1)) (h : (e_at p2 (.initialized (e_m j).1.cls) && (decide ((e_m j).1.cls ≠ "java/lang/invoke/MethodHandle") && (decide ((e_m j).1.cls ≠ "java/lang/invoke/VarHandle") && (decide ((parseMethodDescriptor (e_m j).1.desc).map (fun d => d.parameters.length) = some (e_pn j)) && (decide ((e_m j).2.2.1 ≤ 45) && (plainName (e_m j).1.cls || (j == 230 || j == 231))))))) = true) : e_OkM j := by
  refine ⟨[p1, p2], ?_⟩
  rw [Bool.and_eq_true] at h
  have h3 : e_at p1 (.code (e_m j).1 (e_m j).2.1 (e_m j).2.2.1 (e_m j).2.2.2.1) = true := by
    unfold e_at
    rw [decide_eq_true h1]
    rfl
  unfold e_okM
  rw [Bool.and_eq_true]
  refine ⟨?_, h.2⟩
  simp only [e_ats, h3, h.1, Bool.and_self]
set_option maxRecDepth 100000
theorem e_k0_0 : e_okD (e_m 0).1.cls (e_m 0).1.name (e_m 0).2.1 (((e_m 0).2.2.2.2.drop 0).take 60) [[], [185, 162, 163], []] = true := by decide +kernel
theorem e_k0 : e_Ok 0 := by
  intro pc q hm
  have hm : (pc, q) ∈ (e_m 0).2.2.2.2.drop 0 := hm
  rcases e_Ok_c e_k0_0 hm with h | hm
  · exact h
  have hl : (e_m 0).2.2.2.2.length ≤ 60 := by decide +kernel
  rw [List.drop_eq_nil_of_le (by omega)] at hm
  cases hm
theorem e_j0 : e_OkM 0 := e_OkM_i (p1 := 184) (p2 := 127) (by rfl) (by decide +kernel)
theorem e_k1_0 : e_okD (e_m 1).1.cls (e_m 1).1.name (e_m 1).2.1 (((e_m 1).2.2.2.2.drop 0).take 60) [[], [], [190], [], [190], [], [576], [], [], [], [], [190], [549], [], [], [190], [555], [], [], [], [], [], [1208, 1210, 16], [], [], [], [], [495], [], [], [190], [569], [], [487], [], [], [], [], [], [], [], [487], [], [], [1219, 1221, 18], [], [], [], [186], [], [], [188], [], [], [], [], [], [], [], []] = true := by decide +kernel
theorem e_k1 : e_Ok 1 := by
  intro pc q hm
  have hm : (pc, q) ∈ (e_m 1).2.2.2.2.drop 0 := hm
  rcases e_Ok_c e_k1_0 hm with h | hm
  · exact h
  have hl : (e_m 1).2.2.2.2.length ≤ 60 := by decide +kernel
  rw [List.drop_eq_nil_of_le (by omega)] at hm
  cases hm
theorem e_j1 : e_OkM 1 := e_OkM_i (p1 := 1207) (p2 := 127) (by rfl) (by decide +kernel)
theorem e_k2_0 : e_okD (e_m 2).1.cls (e_m 2).1.name (e_m 2).2.1 (((e_m 2).2.2.2.2.drop 0).take 60) [[], [487], [], [495], [], [], [], [190], [569], [], [487], [], [], [1212, 722], [], [487], [], [], [], [], [], [190], [516], [], [], [], [], [], [], [1213, 1215, 17], [], [], [], [], [], [], [], [], [], [], [190], [569], [], [], [], [], [], [], [], [190], [569], [], [], [], [], [190], [572], [], [], []] = true := by decide +kernel
theorem e_k2_60 : e_okD (e_m 2).1.cls (e_m 2).1.name (e_m 2).2.1 (((e_m 2).2.2.2.2.drop 60).take 60) [[], [], [], [], [], [], [], [190], [572], [], [], [190], [576], [], [], [190], [], [576], [], [], [576], [], [], [], [], [], []] = true := by decide +kernel
theorem e_k2 : e_Ok 2 := by
  intro pc q hm
  have hm : (pc, q) ∈ (e_m 2).2.2.2.2.drop 0 := hm
  rcases e_Ok_c e_k2_0 hm with h | hm
  · exact h
  rcases e_Ok_c e_k2_60 hm with h | hm
  · exact h
  have hl : (e_m 2).2.2.2.2.length ≤ 120 := by decide +kernel
  rw [List.drop_eq_nil_of_le (by omega)] at hm
  cases hm
theorem e_j2 : e_OkM 2 := e_OkM_i (p1 := 1211) (p2 := 127) (by rfl) (by decide +kernel)
theorem e_k3_0 : e_okD (e_m 3).1.cls (e_m 3).1.name (e_m 3).2.1 (((e_m 3).2.2.2.2.drop 0).take 60) [[], [190], [516], [], [], [], [], [], [], [], [], [], [], [], [], [], [], [], [], [], [], [], [], [], [190], [516], [], [], [], [], [], [], [], [], []] = true := by decide +kernel
theorem e_k3 : e_Ok 3 := by
  intro pc q hm
  have hm : (pc, q) ∈ (e_m 3).2.2.2.2.drop 0 := hm
  rcases e_Ok_c e_k3_0 hm with h | hm
  · exact h
  have hl : (e_m 3).2.2.2.2.length ≤ 60 := by decide +kernel
  rw [List.drop_eq_nil_of_le (by omega)] at hm
  cases hm
theorem e_j3 : e_OkM 3 := e_OkM_i (p1 := 1216) (p2 := 127) (by rfl) (by decide +kernel)
theorem e_k4_0 : e_okD (e_m 4).1.cls (e_m 4).1.name (e_m 4).2.1 (((e_m 4).2.2.2.2.drop 0).take 60) [[], [190], [569], [], [], [], [], [], [], [], [], [], [190], [516], [], [], [], [], [], [], [], [], [], [], [], [], [], [], [], [], [], [], [], [], [], [], [], [], [], [487], [], [495], [], [], [], [], [], [], [], [], [1223, 1225, 19], [], [], [], [], []] = true := by decide +kernel
theorem e_k4 : e_Ok 4 := by
  intro pc q hm
  have hm : (pc, q) ∈ (e_m 4).2.2.2.2.drop 0 := hm
  rcases e_Ok_c e_k4_0 hm with h | hm
  · exact h
  have hl : (e_m 4).2.2.2.2.length ≤ 60 := by decide +kernel
  rw [List.drop_eq_nil_of_le (by omega)] at hm
  cases hm
theorem e_j4 : e_OkM 4 := e_OkM_i (p1 := 1222) (p2 := 127) (by rfl) (by decide +kernel)
theorem e_k5_0 : e_okD (e_m 5).1.cls (e_m 5).1.name (e_m 5).2.1 (((e_m 5).2.2.2.2.drop 0).take 60) [[], [], [], [], [], [], [1227, 1229, 20], [], [], [], [], [], [], [], [], [], [190], [516], [], [], [], [], [], [], [], [], [], [], [], [], [], [], [1231, 1233, 21], [], [], [], [], [], [481], [], [], [], [], [], [], [], [190], [524], [], [], [], [], [], [], [], [190], [524], [], [], [190]] = true := by decide +kernel
theorem e_k5_60 : e_okD (e_m 5).1.cls (e_m 5).1.name (e_m 5).2.1 (((e_m 5).2.2.2.2.drop 60).take 60) [[516], [], [], [], [], [], [190], [535], [], [], [], [], [], [], [], [], [], [190], [549], [], [], [], [], [], [], [], [190], [543], [], [], [], [], [], [], []] = true := by decide +kernel
theorem e_k5 : e_Ok 5 := by
  intro pc q hm
  have hm : (pc, q) ∈ (e_m 5).2.2.2.2.drop 0 := hm
  rcases e_Ok_c e_k5_0 hm with h | hm
  · exact h
  rcases e_Ok_c e_k5_60 hm with h | hm
  · exact h
  have hl : (e_m 5).2.2.2.2.length ≤ 120 := by decide +kernel
  rw [List.drop_eq_nil_of_le (by omega)] at hm
  cases hm
theorem e_j5 : e_OkM 5 := e_OkM_i (p1 := 1226) (p2 := 127) (by rfl) (by decide +kernel)
theorem e_k6_0 : e_okD (e_m 6).1.cls (e_m 6).1.name (e_m 6).2.1 (((e_m 6).2.2.2.2.drop 0).take 60) [[], [190], [516], [], [], [], [], [], [], [], [], [], [], [], [], [], [], [], [], [], [], [], [], [], [190], [516], [], [], [], [], [], [], [1231, 1233, 21], [], [], [], [], [], [], []] = true := by decide +kernel
theorem e_k6 : e_Ok 6 := by
  intro pc q hm
  have hm : (pc, q) ∈ (e_m 6).2.2.2.2.drop 0 := hm
  rcases e_Ok_c e_k6_0 hm with h | hm
  · exact h
  have hl : (e_m 6).2.2.2.2.length ≤ 60 := by decide +kernel
  rw [List.drop_eq_nil_of_le (by omega)] at hm
  cases hm
theorem e_j6 : e_OkM 6 := e_OkM_i (p1 := 1230) (p2 := 127) (by rfl) (by decide +kernel)
theorem e_k7_0 : e_okD (e_m 7).1.cls (e_m 7).1.name (e_m 7).2.1 (((e_m 7).2.2.2.2.drop 0).take 60) [[], [], [495], [], [], [190], [569], [], [487], [], [], [], [], [], [], [], []] = true := by decide +kernel
theorem e_k7 : e_Ok 7 := by
  intro pc q hm
  have hm : (pc, q) ∈ (e_m 7).2.2.2.2.drop 0 := hm
  rcases e_Ok_c e_k7_0 hm with h | hm
  · exact h
  have hl : (e_m 7).2.2.2.2.length ≤ 60 := by decide +kernel
  rw [List.drop_eq_nil_of_le (by omega)] at hm
  cases hm
theorem e_j7 : e_OkM 7 := e_OkM_i (p1 := 1234) (p2 := 127) (by rfl) (by decide +kernel)
theorem e_k8_0 : e_okD (e_m 8).1.cls (e_m 8).1.name (e_m 8).2.1 (((e_m 8).2.2.2.2.drop 0).take 60) [[], [377, 162, 163], [], [], [234], [381], []] = true := by decide +kernel
theorem e_k8 : e_Ok 8 := by
  intro pc q hm
  have hm : (pc, q) ∈ (e_m 8).2.2.2.2.drop 0 := hm
  rcases e_Ok_c e_k8_0 hm with h | hm
  · exact h
  have hl : (e_m 8).2.2.2.2.length ≤ 60 := by decide +kernel
  rw [List.drop_eq_nil_of_le (by omega)] at hm
  cases hm
theorem e_j8 : e_OkM 8 := e_OkM_i (p1 := 376) (p2 := 133) (by rfl) (by decide +kernel)
theorem e_k9_0 : e_okD (e_m 9).1.cls (e_m 9).1.name (e_m 9).2.1 (((e_m 9).2.2.2.2.drop 0).take 60) [[], [378], [], [], [], [], [378], [], [], [], [], [381], [], [], [], [], [381], [], [], [], [], [], [], [381], [], [], [], [], [], [], [381], [], [], [], [], [], [], [381], [], [], [], [], [], [], [], [378], [], [], [378], []] = true := by decide +kernel
theorem e_k9 : e_Ok 9 := by
  intro pc q hm
  have hm : (pc, q) ∈ (e_m 9).2.2.2.2.drop 0 := hm
  rcases e_Ok_c e_k9_0 hm with h | hm
  · exact h
  have hl : (e_m 9).2.2.2.2.length ≤ 60 := by decide +kernel
  rw [List.drop_eq_nil_of_le (by omega)] at hm
  cases hm
theorem e_j9 : e_OkM 9 := e_OkM_i (p1 := 1094) (p2 := 133) (by rfl) (by decide +kernel)
theorem e_k10_0 : e_okD (e_m 10).1.cls (e_m 10).1.name (e_m 10).2.1 (((e_m 10).2.2.2.2.drop 0).take 60) [[], [246, 162, 163], [], [], [234], [251], [], [], [234], [255], [], [], [234], [258], [], [], [234], [261], [], [], [234], [263], [], [], [234], [265], [], [], [234], [268], []] = true := by decide +kernel
theorem e_k10 : e_Ok 10 := by
  intro pc q hm
  have hm : (pc, q) ∈ (e_m 10).2.2.2.2.drop 0 := hm
  rcases e_Ok_c e_k10_0 hm with h | hm
  · exact h
  have hl : (e_m 10).2.2.2.2.length ≤ 60 := by decide +kernel
  rw [List.drop_eq_nil_of_le (by omega)] at hm
  cases hm
theorem e_j10 : e_OkM 10 := e_OkM_i (p1 := 245) (p2 := 130) (by rfl) (by decide +kernel)
theorem e_k11_0 : e_okD (e_m 11).1.cls (e_m 11).1.name (e_m 11).2.1 (((e_m 11).2.2.2.2.drop 0).take 60) [[], [], [], [], [247], [], [], [], [], [247], [], [], [], [], []] = true := by decide +kernel
theorem e_k11 : e_Ok 11 := by
  intro pc q hm
  have hm : (pc, q) ∈ (e_m 11).2.2.2.2.drop 0 := hm
  rcases e_Ok_c e_k11_0 hm with h | hm
  · exact h
  have hl : (e_m 11).2.2.2.2.length ≤ 60 := by decide +kernel
  rw [List.drop_eq_nil_of_le (by omega)] at hm
  cases hm
theorem e_j11 : e_OkM 11 := e_OkM_i (p1 := 1122) (p2 := 130) (by rfl) (by decide +kernel)
theorem e_k12_0 : e_okD (e_m 12).1.cls (e_m 12).1.name (e_m 12).2.1 (((e_m 12).2.2.2.2.drop 0).take 60) [[], [247], [], [], [251], [], [], [], [], [255], [], [], [], [], [258], [], [], [], [], [261], [], [], [], [], [263], [], [], [], [], [265], [], [], [], [], [], [247], [], [], [247], []] = true := by decide +kernel
theorem e_k12 : e_Ok 12 := by
  intro pc q hm
  have hm : (pc, q) ∈ (e_m 12).2.2.2.2.drop 0 := hm
  rcases e_Ok_c e_k12_0 hm with h | hm
  · exact h
  have hl : (e_m 12).2.2.2.2.length ≤ 60 := by decide +kernel
  rw [List.drop_eq_nil_of_le (by omega)] at hm
  cases hm
theorem e_j12 : e_OkM 12 := e_OkM_i (p1 := 1102) (p2 := 130) (by rfl) (by decide +kernel)
