/-! ===== the law's entry ===== -/
def e_sz : List Int32 := [2, 3, 1, 2, 2, 1, 1, 1, 1, 1, 1, 1, 1, 1, 1, 1, 1, 1, 1, 1, 3, 2, 2, 2, 2, 2, 2, 2, 2, 2, 2, 2, 2, 2, 2, 2, 2, 2, 2, 3, 3, 1, 1, 1, 1, 2, 2, 2, 2, 1, 1, 1, 1]
def e_tk : List Int32 := [0, 0, 0, 0, 1, 1, 1, 2, 2, 2, 2, 2, 2, 2, 2, 2, 2, 2, 2, 1, 0, 0, 1, 1, 1, 1, 1, 1, 2, 2, 2, 2, 2, 2, 1, 1, 2, 2, 0, 1, 2, 1, 2, 3, 1, 1, 1, 0, 0, 0, 1, 1, 0, 1]
def e_pu : List Int32 := [1, 1, 1, 1, 0, 0, 2, 2, 1, 1, 1, 1, 1, 1, 1, 1, 1, 1, 1, 1, 0, 0, 0, 0, 0, 0, 0, 0, 0, 0, 0, 0, 0, 0, 0, 0, 0, 0, 1, 1, 0, 1, 1, 0, 1, 1, 1, 0, 0, 0, 0, 0, 1, 0]
/-- the memory as the law begins: the script, and the class's three tables -/
def e_M0 (L : Nat) (xs : Nat → Int32) : eM := (8, (fun k => if k = 1 then (20, L) else if k = 2 then (20, 53) else if k = 3 then (20, 54) else if k = 4 then (20, 54) else (0, 0)), (fun k j => if k = 1 then xs j else if k = 2 then e_sz.getD j 0 else if k = 3 then e_tk.getD j 0 else if k = 4 then e_pu.getD j 0 else 0), (fun _ _ => 0), (fun _ _ => 0))
def e_nar : List Cond := flatC (Jvm.Cond.and given_1 narrow_1)
def e_stm (n : String) : Term := .static "TierMill" n "[I"
def e_arw (n : String) (vs : List Int32) : List Cond := Cond.arrayOf (e_stm n) .int :: Cond.eq (.length (e_stm n)) (.int (Int32.ofNat vs.length)) :: (List.range vs.length).map (fun j => Cond.eq (.elem (e_stm n) (.int (Int32.ofNat j))) (.int (vs.getD j 0)))
theorem e_ar2 : (e_nar.drop 5).take 55 = e_arw "SIZES" e_sz := by decide +kernel
theorem e_ar3 : (e_nar.drop 61).take 56 = e_arw "TAKES" e_tk := by decide +kernel
theorem e_ar4 : (e_nar.drop 118).take 56 = e_arw "PUTS" e_pu := by decide +kernel
def e_en1 : List Cond := [.isRef (.static Bundle.tN "UNASSIGNED_STACK" Bundle.steD), .isRef (.static Bundle.tN "SUPPRESSED_SENTINEL" Bundle.listD)] ++ e_ncs.map (fun q => Cond.not (.castable q.1 q.2)) ++ e_strs.map (fun q => Cond.exactly (.string "TierMill" q.1) "java/lang/String")
theorem e_en1_ok : [174, 175, 189, 190, 206, 240, 264, 287, 312, 345, 387, 428, 484, 505].map (fun p => e_nar[p]?) = e_en1.map some := by decide +kernel
def e_en2 : List Cond := [.laysStatic "TierMill" "SIZES" "[I", .laysStatic "TierMill" "TAKES" "[I", .laysStatic "TierMill" "PUTS" "[I", .initialized "TierMill", .laysStatic Bundle.tN "UNASSIGNED_STACK" Bundle.steD, .laysStatic Bundle.tN "SUPPRESSED_SENTINEL" Bundle.listD, .initialized Bundle.tN, .arrayClass .int, .arrayClass .long, .arrayClass .boolean, .arrayOver (.object "TierMill$Plan"), .arrayOver (.object "TierMill$Shape")] ++ e_strs.map (fun q => Cond.stringRef "TierMill" q.1 q.2) ++ e_cl.map (fun q => Cond.instantiable q.1 q.2.2) ++ e_nsF.map (fun q => Cond.fieldLinkNest q.1 q.2.1 "TierMill" q.2.2.1 "[I" "TierMill") ++ e_nsM.map (fun q => Cond.methodLinkNest q.1 q.2.1 q.2.2 "TierMill") ++ e_dw
theorem e_en2_ok : [935, 1009, 1020, 125, 1095, 1097, 138, 173, 321, 1714, 491, 175, 1110, 1146, 1156, 1173, 1383, 1407, 1423, 1424, 1427, 339, 405, 455, 399, 769, 155, 323, 161, 176, 483, 357, 147, 1431, 934, 1008, 1019, 1072, 1074, 1076, 1070, 1072, 1074, 1076, 1149, 1072, 1074, 1076, 1166, 1072, 1074, 1076, 1376].map (fun p => lw_tbl[p]?) = e_en2.map some := by decide +kernel
theorem e_pos {l L : List Cond} {ps : List Nat} (h : ps.map (fun p => L[p]?) = l.map some) : ∀ v ∈ l, v ∈ L := by
  intro v hv
  have h1 : some v ∈ l.map some := List.mem_map.mpr ⟨v, hv, rfl⟩
  rw [← h] at h1
  obtain ⟨p, -, hp⟩ := List.mem_map.mp h1
  exact List.mem_of_getElem? hp
theorem e_arT {s : State} {b : Nat} (hn : ∀ v ∈ e_nar, v.before #[Value.ref b] s = true) {n : String} {vs : List Int32} (hl : vs.length < 2 ^ 31) {p k : Nat} (h : (e_nar.drop p).take k = e_arw n vs) (hini : (Cond.initialized "TierMill").before #[Value.ref b] s = true) (hlay : (Cond.laysStatic "TierMill" n "[I").before #[Value.ref b] s = true) :
    ∃ t, va_Z "TierMill" n "[I" (.ref t) (fun q => s.heap.size ≤ q) s s.heap ∧ t < s.heap.size ∧ e_X t vs.length (fun j => vs.getD j 0) s s.heap := by
  have hw : ∀ v ∈ e_arw n vs, v.before #[Value.ref b] s = true := fun v hv => hn v (List.mem_of_mem_drop (List.mem_of_mem_take (by rw [h]; exact hv)))
  have hA : ∀ a : Nat, a < s.heap.size → ¬ (fun q : Nat => s.heap.size ≤ q) a := fun a ha => Nat.not_le.mpr ha
  obtain ⟨t, ht, cell, c1, c2, c3, c4, c5, c6, c7⟩ := va_Tof (tm := e_stm n) (ty := .int) (N := vs.length) (f := fun j => .int (vs.getD j 0)) (A := fun q => s.heap.size ≤ q) hl (hw _ List.mem_cons_self) (va_eqt (hw _ (List.mem_cons_of_mem _ List.mem_cons_self))) (fun j hj => va_eqt (hw _ (List.mem_cons_of_mem _ (List.mem_cons_of_mem _ (List.mem_map.mpr ⟨j, List.mem_range.mpr hj, rfl⟩))))) hA
  exact ⟨t, va_Zof hlay hini ht hA, (Array.getElem?_eq_some_iff.mp c1).1, cell, c1, c2, c3, c4, c5, c6⟩
set_option maxHeartbeats 1000000 in
theorem e_entry {s : State} {b L : Nat} {xs : Nat → Int32} (hts : ∀ w ∈ lw_tbl, w.before #[Value.ref b] s = true) (hX : va_X b L xs s s.heap) (hbl : b < s.heap.size) (hgv : (Jvm.Cond.and given_1 narrow_1).before #[Value.ref b] s = true) :
    ∃ w : eW, w.2.2.2 = s.heap.size ∧ w.2.2.1 1 = b ∧ e_G w s ∧ e_D s ∧ e_H w (e_M0 L xs) s s.heap := by
  have hn : ∀ v ∈ e_nar, v.before #[Value.ref b] s = true := flat_of_before _ hgv
  have h1 : ∀ v ∈ e_en1, v.before #[Value.ref b] s = true := fun v hv => hn v (e_pos e_en1_ok v hv)
  have h2 : ∀ v ∈ e_en2, v.before #[Value.ref b] s = true := fun v hv => hts v (e_pos e_en2_ok v hv)
  have hbig : ∀ v ∈ e_big, v.before #[Value.ref b] s = true := fun v hv => hts v (List.mem_filter.mp hv).1
  have hA : ∀ a : Nat, a < s.heap.size → ¬ (fun q : Nat => s.heap.size ≤ q) a := fun a ha => Nat.not_le.mpr ha
  have hini := h2 (.initialized "TierMill") (by simp [e_en2])
  obtain ⟨t2, z2, lt2, x2⟩ := e_arT hn (n := "SIZES") (vs := e_sz) (by decide) e_ar2 hini (h2 _ (by simp [e_en2]))
  obtain ⟨t3, z3, lt3, x3⟩ := e_arT hn (n := "TAKES") (vs := e_tk) (by decide) e_ar3 hini (h2 _ (by simp [e_en2]))
  obtain ⟨t4, z4, lt4, x4⟩ := e_arT hn (n := "PUTS") (vs := e_pu) (by decide) e_ar4 hini (h2 _ (by simp [e_en2]))
  have hcl : ∀ ci : Nat, ∃ x : ClassId × (Nat → Nat), ∀ q, e_cl[ci]? = some q → u_Kn s q.1 q.2.1 q.2.2 x.1 x.2 := by
    intro ci
    cases hq : e_cl[ci]? with
    | none => exact ⟨(0, fun _ => 0), fun q h => by cases h⟩
    | some q =>
      obtain ⟨y, f1, -⟩ := e_cl_f hq
      obtain ⟨cC, iS, hK⟩ := u_known (C := q.1) (T := q.2.1) (N := q.2.2) (n := q.2.2) hbig f1 (h2 (.instantiable q.1 q.2.2) (by
        unfold e_en2
        simp only [List.mem_append]
        exact Or.inl (Or.inl (Or.inl (Or.inr (List.mem_map.mpr ⟨q, List.mem_of_getElem? hq, rfl⟩))))))
      exact ⟨(cC, iS), fun q' h => by cases h; exact hK⟩
  obtain ⟨f, hf⟩ := Classical.axiomOfChoice hcl
  obtain ⟨c20, k20, p20, g20, r20, s20⟩ := Cond.arrayClass_spec (h2 (.arrayClass .int) (by simp [e_en2]))
  obtain ⟨c21, k21, p21, g21, r21, s21⟩ := Cond.arrayClass_spec (h2 (.arrayClass .long) (by simp [e_en2]))
  obtain ⟨c22, k22, p22, g22, r22, s22⟩ := Cond.arrayClass_spec (h2 (.arrayClass .boolean) (by simp [e_en2]))
  have hP := h2 (.arrayOver (.object "TierMill$Plan")) (by simp [e_en2])
  have hSh := h2 (.arrayOver (.object "TierMill$Shape")) (by simp [e_en2])
  obtain ⟨p23, c23, k23, o23, i23, r23, s23, g23⟩ := Cond.arrayOver_spec hP
  obtain ⟨p24, c24, k24, o24, i24, r24, s24, g24⟩ := Cond.arrayOver_spec hSh
  let w : eW := ((fun c => (f c).1, fun c => (f c).2), (fun t => if t = 20 then c20 else if t = 21 then c21 else if t = 22 then c22 else if t = 23 then c23 else c24), (fun k => if k = 1 then b else if k = 2 then t2 else if k = 3 then t3 else t4), s.heap.size)
  refine ⟨w, rfl, rfl, ⟨⟨fun c q hq => hf c q hq, ?_⟩, ?_, ?_, va_AO.of hP, va_AO.of hSh, ?_, ?_⟩, ?_, ?_⟩
  · intro k q hq
    have hty : e_tys w = [(c20, .int), (c21, .long), (c22, .boolean), (c23, .object "TierMill$Plan"), (c24, .object "TierMill$Shape")] := rfl
    rw [hty] at hq
    match k, hq with
    | 0, hq => cases hq; exact ⟨fun N z => ⟨(fun k h => by cases h), k20, r20, p20, s20⟩, g20⟩
    | 1, hq => cases hq; exact ⟨fun N z => ⟨(fun k h => by cases h), k21, r21, p21, s21⟩, g21⟩
    | 2, hq => cases hq; exact ⟨fun N z => ⟨(fun k h => by cases h), k22, r22, p22, s22⟩, g22⟩
    | 3, hq => cases hq; exact ⟨fun N z => ⟨(fun k h => by cases h), k23, r23, p23, s23⟩, k23, p23, r23, s23, o23, g23⟩
    | 4, hq => cases hq; exact ⟨fun N z => ⟨(fun k h => by cases h), k24, r24, p24, s24⟩, k24, p24, r24, s24, o24, g24⟩
    | n + 5, hq => simp at hq
  · intro q hq
    exact va_Nw.of rfl (h2 _ (by
      unfold e_en2
      simp only [List.mem_append]
      exact Or.inl (Or.inl (Or.inr (List.mem_map.mpr ⟨q, hq, rfl⟩)))))
  · intro q hq
    exact va_Nw.of rfl (h2 _ (by
      unfold e_en2
      simp only [List.mem_append]
      exact Or.inl (Or.inr (List.mem_map.mpr ⟨q, hq, rfl⟩))))
  · intro q hq
    obtain ⟨a, c, cA, kA, q1, q2, q3, q4, q5, q6, -⟩ := Cond.exactly_spec (args := #[Value.ref b]) (first := s) (o := none) (s := s) (idx := []) (t := .string "TierMill" q.1) (cls := "java/lang/String") (h1 _ (by
      unfold e_en1
      simp only [List.mem_append]
      exact Or.inr (List.mem_map.mpr ⟨q, hq, rfl⟩)))
    exact ⟨a, vk_R.of (h2 (.stringRef "TierMill" q.1 q.2) (by
      unfold e_en2
      simp only [List.mem_append]
      exact Or.inl (Or.inl (Or.inl (Or.inl (Or.inr (List.mem_map.mpr ⟨q, hq, rfl⟩)))))))
      q1⟩
  · intro q hq
    exact va_Nc.of (h1 (.not (.castable q.1 q.2)) (by
      unfold e_en1
      simp only [List.mem_append]
      exact Or.inl (Or.inr (List.mem_map.mpr ⟨q, hq, rfl⟩))))
  · intro v hv
    have hb : v.before #[Value.ref b] s = true := h2 v (by
      unfold e_en2
      simp only [List.mem_append]
      exact Or.inr hv)
    have hd := List.all_eq_true.mp e_dw_dc v hv
    cases v with
    | declares x => exact va_Nw.of rfl hb
    | castable a b => exact va_Nw.of rfl hb
    | _ => cases hd
  · refine ⟨Nat.le_refl _, rfl, fun k hk1 hk2 => ?_, ?_, ?_, ?_, ?_⟩
    · have : (e_M0 L xs).1 = 8 := rfl
      have : e_c0 = 8 := rfl
      omega
    · intro k hk0 hk8 hk
      have hk8 : k < 8 := hk8
      have hc : k = 1 ∨ k = 2 ∨ k = 3 ∨ k = 4 ∨ k = 5 ∨ k = 6 ∨ k = 7 := by omega
      rcases hc with rfl | rfl | rfl | rfl | rfl | rfl | rfl
      · obtain ⟨scr, y1, y2, y3, y4, y5⟩ := hX
        exact ⟨hbl, scr, y1, y2, y3, Nat.le_of_eq y4.symm, by rw [y4]; rfl, y5⟩
      · exact ⟨lt2, x2⟩
      · exact ⟨lt3, x3⟩
      · exact ⟨lt4, x4⟩
      · cases hk
      · cases hk
      · cases hk
    · intro q hq
      simp only [e_sts, List.mem_cons, List.not_mem_nil, or_false] at hq
      rcases hq with rfl | rfl | rfl
      · exact z2
      · exact z3
      · exact z4
    · exact vx_Zqof (h2 _ (by simp [e_en2])) (h2 _ (by simp [e_en2])) (h1 _ (by simp [e_en1])) hA
    · exact vx_Zqof (h2 _ (by simp [e_en2])) (h2 _ (by simp [e_en2])) (h1 _ (by simp [e_en1])) hA
