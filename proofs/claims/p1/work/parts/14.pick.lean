/-! ===== what an instruction goes on with; more locals do no harm; steps enough ===== -/
def e_sub (lv lv2 : eL) : Prop := ∀ q ∈ lv, q ∈ lv2
def e_fun (lv : eL) : Prop := ∀ (j : Nat) (v u : Value), (j, v) ∈ lv → (j, u) ∈ lv → v = u
theorem e_lk_sub {lv lv2 : eL} (hs : e_sub lv lv2) (hf : e_fun lv2) {j : Nat} {v : Value} (h : lv.lookup j = some v) : lv2.lookup j = some v := by
  have h1 := hs _ (e_lu h)
  cases h2 : lv2.lookup j with
  | none =>
    exfalso
    rw [List.lookup_eq_none_iff] at h2
    have := h2 _ h1
    simp at this
  | some u => rw [hf j u v (e_lu h2) h1]
theorem e_s1_sub {lv lv2 : eL} (hs : e_sub lv lv2) (j : Nat) (v : Value) : e_sub (e_s1 lv j v) (e_s1 lv2 j v) := by
  intro q hq
  rcases List.mem_cons.mp hq with rfl | hq
  · exact List.mem_cons_self
  · obtain ⟨h1, h2⟩ := List.mem_filter.mp hq
    exact List.mem_cons_of_mem _ (List.mem_filter.mpr ⟨hs _ h1, h2⟩)
theorem e_s2_sub {lv lv2 : eL} (hs : e_sub lv lv2) (j : Nat) (v : Value) : e_sub (e_s2 lv j v) (e_s2 lv2 j v) := by
  intro q hq
  rcases List.mem_cons.mp hq with rfl | hq
  · exact List.mem_cons_self
  · obtain ⟨h1, h2⟩ := List.mem_filter.mp hq
    exact List.mem_cons_of_mem _ (List.mem_filter.mpr ⟨hs _ h1, h2⟩)
theorem e_s1_fun {lv : eL} (hf : e_fun lv) (j : Nat) (v : Value) : e_fun (e_s1 lv j v) := by
  intro i x y h1 h2
  rcases List.mem_cons.mp h1 with e1 | h1
  · rcases List.mem_cons.mp h2 with e2 | h2
    · cases e1; cases e2; rfl
    · cases e1
      have := (List.mem_filter.mp h2).2
      simp at this
  · rcases List.mem_cons.mp h2 with e2 | h2
    · cases e2
      have := (List.mem_filter.mp h1).2
      simp at this
    · exact hf i x y (List.mem_filter.mp h1).1 (List.mem_filter.mp h2).1
theorem e_s2_fun {lv : eL} (hf : e_fun lv) (j : Nat) (v : Value) : e_fun (e_s2 lv j v) := by
  intro i x y h1 h2
  rcases List.mem_cons.mp h1 with e1 | h1
  · rcases List.mem_cons.mp h2 with e2 | h2
    · cases e1; cases e2; rfl
    · cases e1
      have := (List.mem_filter.mp h2).2
      simp at this
  · rcases List.mem_cons.mp h2 with e2 | h2
    · cases e2
      have := (List.mem_filter.mp h1).2
      simp at this
    · exact hf i x y (List.mem_filter.mp h1).1 (List.mem_filter.mp h2).1
/-- an instruction goes on at one place, or calls, or returns; lv2 has what lv has -/
def e_Pick (L : Nat) (k : eK) (cal : eC) (Q : eQ) (ret : Option FieldType) (kc ks pc : Nat) (q : eI) (lv : eL) (st : List Value) (M : eM) (lv2 : eL) : Prop :=
  (∃ kc' ks' pc' lv' st' M' lv2', k kc' ks' pc' lv' st' M' ∧ (e_fun lv → e_fun lv') ∧ e_sub lv' lv2' ∧ e_fun lv2' ∧ ∀ (k2 : eK) (cal2 : eC) (Q2 : eQ), k2 kc' ks' pc' lv2' st' M' → e_ins L k2 cal2 Q2 ret kc ks pc q lv2 st M) ∨
  (∃ j mc ms av M' rest, cal j mc ms av M' (fun v M'' => k (kc - mc) (ks - ms) (pc + 3) lv (v.toList ++ rest) M'') ∧ ∀ (k2 : eK) (cal2 : eC) (Q2 : eQ), cal2 j mc ms av M' (fun v M'' => k2 (kc - mc) (ks - ms) (pc + 3) lv2 (v.toList ++ rest) M'') → e_ins L k2 cal2 Q2 ret kc ks pc q lv2 st M) ∨
  (∃ v, Q v M ∧ ∀ (k2 : eK) (cal2 : eC) (Q2 : eQ), Q2 v M → e_ins L k2 cal2 Q2 ret kc ks pc q lv2 st M)
set_option maxHeartbeats 4000000 in
theorem e_pick {L : Nat} {k : eK} {cal : eC} {Q : eQ} {ret : Option FieldType} {kc ks pc : Nat} {q : eI} {lv : eL} {st : List Value} {M : eM} (h : e_ins L k cal Q ret kc ks pc q lv st M) {lv2 : eL} (hs : e_sub lv lv2) (hf : e_fun lv2) : e_Pick L k cal Q ret kc ks pc q lv st M lv2 := by
  obtain ⟨ins, len, a, b, z⟩ := q
  cases ins with
  | iconst n =>
    exact Or.inl ⟨_, _, _, _, _, _, lv2, h, id, hs, hf, fun k2 cal2 Q2 g => g⟩
  | bipush n =>
    exact Or.inl ⟨_, _, _, _, _, _, lv2, h, id, hs, hf, fun k2 cal2 Q2 g => g⟩
  | sipush n =>
    exact Or.inl ⟨_, _, _, _, _, _, lv2, h, id, hs, hf, fun k2 cal2 Q2 g => g⟩
  | lconst n =>
    exact Or.inl ⟨_, _, _, _, _, _, lv2, h, id, hs, hf, fun k2 cal2 Q2 g => g⟩
  | aconst_null =>
    exact Or.inl ⟨_, _, _, _, _, _, lv2, h, id, hs, hf, fun k2 cal2 Q2 g => g⟩
  | ldc2_w x =>
    exact Or.inl ⟨_, _, _, _, _, _, lv2, h, id, hs, hf, fun k2 cal2 Q2 g => g⟩
  | ldc x =>
    obtain ⟨h0, h⟩ := h
    exact Or.inl ⟨_, _, _, _, _, _, lv2, h, id, hs, hf, fun k2 cal2 Q2 g => ⟨h0, g⟩⟩
  | ldc_w x =>
    obtain ⟨h0, h⟩ := h
    exact Or.inl ⟨_, _, _, _, _, _, lv2, h, id, hs, hf, fun k2 cal2 Q2 g => ⟨h0, g⟩⟩
  | iload_n j =>
    obtain ⟨v, h1, h2, h⟩ := e_lk_inv h
    have h3 := e_lk_sub hs hf h1
    refine Or.inl ⟨_, _, _, _, _, _, lv2, h, id, hs, hf, fun k2 cal2 Q2 g => ?_⟩
    show e_lk _ _ _
    unfold e_lk
    rw [h3]
    exact ⟨h2, g⟩
  | iload j =>
    obtain ⟨v, h1, h2, h⟩ := e_lk_inv h
    have h3 := e_lk_sub hs hf h1
    refine Or.inl ⟨_, _, _, _, _, _, lv2, h, id, hs, hf, fun k2 cal2 Q2 g => ?_⟩
    show e_lk _ _ _
    unfold e_lk
    rw [h3]
    exact ⟨h2, g⟩
  | lload_n j =>
    obtain ⟨v, h1, h2, h⟩ := e_lk_inv h
    have h3 := e_lk_sub hs hf h1
    refine Or.inl ⟨_, _, _, _, _, _, lv2, h, id, hs, hf, fun k2 cal2 Q2 g => ?_⟩
    show e_lk _ _ _
    unfold e_lk
    rw [h3]
    exact ⟨h2, g⟩
  | lload j =>
    obtain ⟨v, h1, h2, h⟩ := e_lk_inv h
    have h3 := e_lk_sub hs hf h1
    refine Or.inl ⟨_, _, _, _, _, _, lv2, h, id, hs, hf, fun k2 cal2 Q2 g => ?_⟩
    show e_lk _ _ _
    unfold e_lk
    rw [h3]
    exact ⟨h2, g⟩
  | aload_n j =>
    obtain ⟨v, h1, h2, h⟩ := e_lk_inv h
    have h3 := e_lk_sub hs hf h1
    refine Or.inl ⟨_, _, _, _, _, _, lv2, h, id, hs, hf, fun k2 cal2 Q2 g => ?_⟩
    show e_lk _ _ _
    unfold e_lk
    rw [h3]
    exact ⟨h2, g⟩
  | aload j =>
    obtain ⟨v, h1, h2, h⟩ := e_lk_inv h
    have h3 := e_lk_sub hs hf h1
    refine Or.inl ⟨_, _, _, _, _, _, lv2, h, id, hs, hf, fun k2 cal2 Q2 g => ?_⟩
    show e_lk _ _ _
    unfold e_lk
    rw [h3]
    exact ⟨h2, g⟩
  | istore_n j =>
    obtain ⟨x, r, rfl, h1, h⟩ := e_i1_inv h
    exact Or.inl ⟨_, _, _, _, _, _, e_s1 lv2 j (.int x), h, fun z => e_s1_fun z j (.int x), e_s1_sub hs j (.int x), e_s1_fun hf j (.int x), fun k2 cal2 Q2 g => ⟨h1, g⟩⟩
  | istore j =>
    obtain ⟨x, r, rfl, h1, h⟩ := e_i1_inv h
    exact Or.inl ⟨_, _, _, _, _, _, e_s1 lv2 j (.int x), h, fun z => e_s1_fun z j (.int x), e_s1_sub hs j (.int x), e_s1_fun hf j (.int x), fun k2 cal2 Q2 g => ⟨h1, g⟩⟩
  | astore_n j =>
    obtain ⟨x, r, rfl, h1, h⟩ := e_r1_inv h
    exact Or.inl ⟨_, _, _, _, _, _, e_s1 lv2 j (.ref x), h, fun z => e_s1_fun z j (.ref x), e_s1_sub hs j (.ref x), e_s1_fun hf j (.ref x), fun k2 cal2 Q2 g => ⟨h1, g⟩⟩
  | astore j =>
    obtain ⟨x, r, rfl, h1, h⟩ := e_r1_inv h
    exact Or.inl ⟨_, _, _, _, _, _, e_s1 lv2 j (.ref x), h, fun z => e_s1_fun z j (.ref x), e_s1_sub hs j (.ref x), e_s1_fun hf j (.ref x), fun k2 cal2 Q2 g => ⟨h1, g⟩⟩
  | lstore_n j =>
    obtain ⟨x, r, rfl, h1, h⟩ := e_l1_inv h
    exact Or.inl ⟨_, _, _, _, _, _, e_s2 lv2 j (.long x), h, fun z => e_s2_fun z j (.long x), e_s2_sub hs j (.long x), e_s2_fun hf j (.long x), fun k2 cal2 Q2 g => ⟨h1, g⟩⟩
  | lstore j =>
    obtain ⟨x, r, rfl, h1, h⟩ := e_l1_inv h
    exact Or.inl ⟨_, _, _, _, _, _, e_s2 lv2 j (.long x), h, fun z => e_s2_fun z j (.long x), e_s2_sub hs j (.long x), e_s2_fun hf j (.long x), fun k2 cal2 Q2 g => ⟨h1, g⟩⟩
  | iinc j n =>
    obtain ⟨v, h1, h⟩ := e_lk_inv h
    have h3 := e_lk_sub hs hf h1
    cases v with
    | int x =>
      refine Or.inl ⟨_, _, _, _, _, _, e_s1 lv2 j (.int (x + Int32.ofInt n)), h.2, fun z => e_s1_fun z j _, e_s1_sub hs j _, e_s1_fun hf j _, fun k2 cal2 Q2 g => ?_⟩
      show e_lk _ _ _
      unfold e_lk
      rw [h3]
      exact ⟨h.1, g⟩
    | _ => exact False.elim h
  | iadd =>
    obtain ⟨x, y, r, rfl, h⟩ := e_i2_inv h
    exact Or.inl ⟨_, _, _, _, _, _, lv2, h, id, hs, hf, fun k2 cal2 Q2 g => g⟩
  | isub =>
    obtain ⟨x, y, r, rfl, h⟩ := e_i2_inv h
    exact Or.inl ⟨_, _, _, _, _, _, lv2, h, id, hs, hf, fun k2 cal2 Q2 g => g⟩
  | imul =>
    obtain ⟨x, y, r, rfl, h⟩ := e_i2_inv h
    exact Or.inl ⟨_, _, _, _, _, _, lv2, h, id, hs, hf, fun k2 cal2 Q2 g => g⟩
  | iand =>
    obtain ⟨x, y, r, rfl, h⟩ := e_i2_inv h
    exact Or.inl ⟨_, _, _, _, _, _, lv2, h, id, hs, hf, fun k2 cal2 Q2 g => g⟩
  | ior =>
    obtain ⟨x, y, r, rfl, h⟩ := e_i2_inv h
    exact Or.inl ⟨_, _, _, _, _, _, lv2, h, id, hs, hf, fun k2 cal2 Q2 g => g⟩
  | ixor =>
    obtain ⟨x, y, r, rfl, h⟩ := e_i2_inv h
    exact Or.inl ⟨_, _, _, _, _, _, lv2, h, id, hs, hf, fun k2 cal2 Q2 g => g⟩
  | ishl =>
    obtain ⟨x, y, r, rfl, h⟩ := e_i2_inv h
    exact Or.inl ⟨_, _, _, _, _, _, lv2, h, id, hs, hf, fun k2 cal2 Q2 g => g⟩
  | ishr =>
    obtain ⟨x, y, r, rfl, h⟩ := e_i2_inv h
    exact Or.inl ⟨_, _, _, _, _, _, lv2, h, id, hs, hf, fun k2 cal2 Q2 g => g⟩
  | iushr =>
    obtain ⟨x, y, r, rfl, h⟩ := e_i2_inv h
    exact Or.inl ⟨_, _, _, _, _, _, lv2, h, id, hs, hf, fun k2 cal2 Q2 g => g⟩
  | ladd =>
    obtain ⟨x, y, r, rfl, h⟩ := e_l2_inv h
    exact Or.inl ⟨_, _, _, _, _, _, lv2, h, id, hs, hf, fun k2 cal2 Q2 g => g⟩
  | land =>
    obtain ⟨x, y, r, rfl, h⟩ := e_l2_inv h
    exact Or.inl ⟨_, _, _, _, _, _, lv2, h, id, hs, hf, fun k2 cal2 Q2 g => g⟩
  | lor =>
    obtain ⟨x, y, r, rfl, h⟩ := e_l2_inv h
    exact Or.inl ⟨_, _, _, _, _, _, lv2, h, id, hs, hf, fun k2 cal2 Q2 g => g⟩
  | lxor =>
    obtain ⟨x, y, r, rfl, h⟩ := e_l2_inv h
    exact Or.inl ⟨_, _, _, _, _, _, lv2, h, id, hs, hf, fun k2 cal2 Q2 g => g⟩
  | lcmp =>
    obtain ⟨x, y, r, rfl, h⟩ := e_l2_inv h
    exact Or.inl ⟨_, _, _, _, _, _, lv2, h, id, hs, hf, fun k2 cal2 Q2 g => g⟩
  | lshl =>
    obtain ⟨x, y, r, rfl, h⟩ := e_li_inv h
    exact Or.inl ⟨_, _, _, _, _, _, lv2, h, id, hs, hf, fun k2 cal2 Q2 g => g⟩
  | lshr =>
    obtain ⟨x, y, r, rfl, h⟩ := e_li_inv h
    exact Or.inl ⟨_, _, _, _, _, _, lv2, h, id, hs, hf, fun k2 cal2 Q2 g => g⟩
  | lushr =>
    obtain ⟨x, y, r, rfl, h⟩ := e_li_inv h
    exact Or.inl ⟨_, _, _, _, _, _, lv2, h, id, hs, hf, fun k2 cal2 Q2 g => g⟩
  | ineg =>
    obtain ⟨x, r, rfl, h⟩ := e_i1_inv h
    exact Or.inl ⟨_, _, _, _, _, _, lv2, h, id, hs, hf, fun k2 cal2 Q2 g => g⟩
  | i2l =>
    obtain ⟨x, r, rfl, h⟩ := e_i1_inv h
    exact Or.inl ⟨_, _, _, _, _, _, lv2, h, id, hs, hf, fun k2 cal2 Q2 g => g⟩
  | l2i =>
    obtain ⟨x, r, rfl, h⟩ := e_l1_inv h
    exact Or.inl ⟨_, _, _, _, _, _, lv2, h, id, hs, hf, fun k2 cal2 Q2 g => g⟩
  | i2b =>
    obtain ⟨x, r, rfl, h⟩ := e_i1_inv h
    exact Or.inl ⟨_, _, _, _, _, _, lv2, h, id, hs, hf, fun k2 cal2 Q2 g => g⟩
  | i2s =>
    obtain ⟨x, r, rfl, h⟩ := e_i1_inv h
    exact Or.inl ⟨_, _, _, _, _, _, lv2, h, id, hs, hf, fun k2 cal2 Q2 g => g⟩
  | idiv =>
    obtain ⟨x, y, r, rfl, h0, h⟩ := e_i2_inv h
    exact Or.inl ⟨_, _, _, _, _, _, lv2, h, id, hs, hf, fun k2 cal2 Q2 g => ⟨h0, g⟩⟩
  | irem =>
    obtain ⟨x, y, r, rfl, h0, h⟩ := e_i2_inv h
    exact Or.inl ⟨_, _, _, _, _, _, lv2, h, id, hs, hf, fun k2 cal2 Q2 g => ⟨h0, g⟩⟩
  | dup =>
    cases st with
    | nil => exact False.elim h
    | cons v r => exact Or.inl ⟨_, _, _, _, _, _, lv2, h.2, id, hs, hf, fun k2 cal2 Q2 g => ⟨h.1, g⟩⟩
  | dup2 =>
    cases st with
    | nil => exact False.elim h
    | cons v r =>
      cases r with
      | nil => exact False.elim h
      | cons u r => exact Or.inl ⟨_, _, _, _, _, _, lv2, h.2.2, id, hs, hf, fun k2 cal2 Q2 g => ⟨h.1, h.2.1, g⟩⟩
  | pop =>
    cases st with
    | nil => exact False.elim h
    | cons v r => exact Or.inl ⟨_, _, _, _, _, _, lv2, h.2, id, hs, hf, fun k2 cal2 Q2 g => ⟨h.1, g⟩⟩
  | goto t =>
    exact Or.inl ⟨_, _, _, _, _, _, lv2, h, id, hs, hf, fun k2 cal2 Q2 g => g⟩
  | ifCond cnd t =>
    cases cnd with
    | eq =>
      obtain ⟨x, r, rfl, h⟩ := e_i1_inv h
      by_cases hcnd : x = 0
      · exact Or.inl ⟨_, _, _, _, _, _, lv2, h.1 hcnd, id, hs, hf, fun k2 cal2 Q2 g => ⟨fun _ => g, fun z => absurd hcnd z⟩⟩
      · exact Or.inl ⟨_, _, _, _, _, _, lv2, h.2 hcnd, id, hs, hf, fun k2 cal2 Q2 g => ⟨fun z => absurd z hcnd, fun _ => g⟩⟩
    | ne =>
      obtain ⟨x, r, rfl, h⟩ := e_i1_inv h
      by_cases hcnd : x = 0
      · exact Or.inl ⟨_, _, _, _, _, _, lv2, h.2 hcnd, id, hs, hf, fun k2 cal2 Q2 g => ⟨fun z => absurd hcnd z, fun _ => g⟩⟩
      · exact Or.inl ⟨_, _, _, _, _, _, lv2, h.1 hcnd, id, hs, hf, fun k2 cal2 Q2 g => ⟨fun _ => g, fun z => absurd z hcnd⟩⟩
    | lt =>
      obtain ⟨x, r, rfl, h⟩ := e_i1_inv h
      by_cases hcnd : x < 0
      · exact Or.inl ⟨_, _, _, _, _, _, lv2, h.1 hcnd, id, hs, hf, fun k2 cal2 Q2 g => ⟨fun _ => g, fun z => absurd hcnd z⟩⟩
      · exact Or.inl ⟨_, _, _, _, _, _, lv2, h.2 hcnd, id, hs, hf, fun k2 cal2 Q2 g => ⟨fun z => absurd z hcnd, fun _ => g⟩⟩
    | ge =>
      obtain ⟨x, r, rfl, h⟩ := e_i1_inv h
      by_cases hcnd : 0 ≤ x
      · exact Or.inl ⟨_, _, _, _, _, _, lv2, h.1 hcnd, id, hs, hf, fun k2 cal2 Q2 g => ⟨fun _ => g, fun z => absurd hcnd z⟩⟩
      · exact Or.inl ⟨_, _, _, _, _, _, lv2, h.2 hcnd, id, hs, hf, fun k2 cal2 Q2 g => ⟨fun z => absurd z hcnd, fun _ => g⟩⟩
    | gt =>
      obtain ⟨x, r, rfl, h⟩ := e_i1_inv h
      by_cases hcnd : 0 < x
      · exact Or.inl ⟨_, _, _, _, _, _, lv2, h.1 hcnd, id, hs, hf, fun k2 cal2 Q2 g => ⟨fun _ => g, fun z => absurd hcnd z⟩⟩
      · exact Or.inl ⟨_, _, _, _, _, _, lv2, h.2 hcnd, id, hs, hf, fun k2 cal2 Q2 g => ⟨fun z => absurd z hcnd, fun _ => g⟩⟩
    | le =>
      obtain ⟨x, r, rfl, h⟩ := e_i1_inv h
      by_cases hcnd : x ≤ 0
      · exact Or.inl ⟨_, _, _, _, _, _, lv2, h.1 hcnd, id, hs, hf, fun k2 cal2 Q2 g => ⟨fun _ => g, fun z => absurd hcnd z⟩⟩
      · exact Or.inl ⟨_, _, _, _, _, _, lv2, h.2 hcnd, id, hs, hf, fun k2 cal2 Q2 g => ⟨fun z => absurd z hcnd, fun _ => g⟩⟩
  | if_icmp cnd t =>
    cases cnd with
    | eq =>
      obtain ⟨x, y, r, rfl, h⟩ := e_i2_inv h
      by_cases hcnd : x = y
      · exact Or.inl ⟨_, _, _, _, _, _, lv2, h.1 hcnd, id, hs, hf, fun k2 cal2 Q2 g => ⟨fun _ => g, fun z => absurd hcnd z⟩⟩
      · exact Or.inl ⟨_, _, _, _, _, _, lv2, h.2 hcnd, id, hs, hf, fun k2 cal2 Q2 g => ⟨fun z => absurd z hcnd, fun _ => g⟩⟩
    | ne =>
      obtain ⟨x, y, r, rfl, h⟩ := e_i2_inv h
      by_cases hcnd : x = y
      · exact Or.inl ⟨_, _, _, _, _, _, lv2, h.2 hcnd, id, hs, hf, fun k2 cal2 Q2 g => ⟨fun z => absurd hcnd z, fun _ => g⟩⟩
      · exact Or.inl ⟨_, _, _, _, _, _, lv2, h.1 hcnd, id, hs, hf, fun k2 cal2 Q2 g => ⟨fun _ => g, fun z => absurd z hcnd⟩⟩
    | lt =>
      obtain ⟨x, y, r, rfl, h⟩ := e_i2_inv h
      by_cases hcnd : x < y
      · exact Or.inl ⟨_, _, _, _, _, _, lv2, h.1 hcnd, id, hs, hf, fun k2 cal2 Q2 g => ⟨fun _ => g, fun z => absurd hcnd z⟩⟩
      · exact Or.inl ⟨_, _, _, _, _, _, lv2, h.2 hcnd, id, hs, hf, fun k2 cal2 Q2 g => ⟨fun z => absurd z hcnd, fun _ => g⟩⟩
    | ge =>
      obtain ⟨x, y, r, rfl, h⟩ := e_i2_inv h
      by_cases hcnd : y ≤ x
      · exact Or.inl ⟨_, _, _, _, _, _, lv2, h.1 hcnd, id, hs, hf, fun k2 cal2 Q2 g => ⟨fun _ => g, fun z => absurd hcnd z⟩⟩
      · exact Or.inl ⟨_, _, _, _, _, _, lv2, h.2 hcnd, id, hs, hf, fun k2 cal2 Q2 g => ⟨fun z => absurd z hcnd, fun _ => g⟩⟩
    | gt =>
      obtain ⟨x, y, r, rfl, h⟩ := e_i2_inv h
      by_cases hcnd : y < x
      · exact Or.inl ⟨_, _, _, _, _, _, lv2, h.1 hcnd, id, hs, hf, fun k2 cal2 Q2 g => ⟨fun _ => g, fun z => absurd hcnd z⟩⟩
      · exact Or.inl ⟨_, _, _, _, _, _, lv2, h.2 hcnd, id, hs, hf, fun k2 cal2 Q2 g => ⟨fun z => absurd z hcnd, fun _ => g⟩⟩
    | le =>
      obtain ⟨x, y, r, rfl, h⟩ := e_i2_inv h
      by_cases hcnd : x ≤ y
      · exact Or.inl ⟨_, _, _, _, _, _, lv2, h.1 hcnd, id, hs, hf, fun k2 cal2 Q2 g => ⟨fun _ => g, fun z => absurd hcnd z⟩⟩
      · exact Or.inl ⟨_, _, _, _, _, _, lv2, h.2 hcnd, id, hs, hf, fun k2 cal2 Q2 g => ⟨fun z => absurd z hcnd, fun _ => g⟩⟩
  | ifnull t =>
    obtain ⟨x, r, rfl, h⟩ := e_r1_inv h
    by_cases hcnd : x = 0
    · exact Or.inl ⟨_, _, _, _, _, _, lv2, h.1 hcnd, id, hs, hf, fun k2 cal2 Q2 g => ⟨fun _ => g, fun z => absurd hcnd z⟩⟩
    · exact Or.inl ⟨_, _, _, _, _, _, lv2, h.2 hcnd, id, hs, hf, fun k2 cal2 Q2 g => ⟨fun z => absurd z hcnd, fun _ => g⟩⟩
  | ifnonnull t =>
    obtain ⟨x, r, rfl, h⟩ := e_r1_inv h
    by_cases hcnd : x = 0
    · exact Or.inl ⟨_, _, _, _, _, _, lv2, h.2 hcnd, id, hs, hf, fun k2 cal2 Q2 g => ⟨fun z => absurd hcnd z, fun _ => g⟩⟩
    · exact Or.inl ⟨_, _, _, _, _, _, lv2, h.1 hcnd, id, hs, hf, fun k2 cal2 Q2 g => ⟨fun _ => g, fun z => absurd z hcnd⟩⟩
  | tableswitch dd lo hi offs =>
    obtain ⟨x, r, rfl, h⟩ := e_i1_inv h
    by_cases hcnd : x.toInt < lo ∨ hi < x.toInt
    · exact Or.inl ⟨_, _, _, _, _, _, lv2, h.1 hcnd, id, hs, hf, fun k2 cal2 Q2 g => ⟨fun _ => g, fun z1 z2 => absurd hcnd (fun z => z.elim z1 z2)⟩⟩
    · obtain ⟨t, ht, h9⟩ := h.2 (fun z => hcnd (Or.inl z)) (fun z => hcnd (Or.inr z))
      exact Or.inl ⟨_, _, _, _, _, _, lv2, h9, id, hs, hf, fun k2 cal2 Q2 g => ⟨fun z => absurd z hcnd, fun _ _ => ⟨t, ht, g⟩⟩⟩
  | lookupswitch dd prs =>
    obtain ⟨x, r, rfl, h⟩ := e_i1_inv h
    exact Or.inl ⟨_, _, _, _, _, _, lv2, h, id, hs, hf, fun k2 cal2 Q2 g => g⟩
  | getfield x =>
    obtain ⟨ha, h⟩ := h
    obtain ⟨t, r, rfl, h1, h⟩ := e_r1_inv h
    exact Or.inl ⟨_, _, _, _, _, _, lv2, h, id, hs, hf, fun k2 cal2 Q2 g => ⟨ha, h1, g⟩⟩
  | putfield x =>
    obtain ⟨ha, h⟩ := h
    have h : e_put k kc ks (pc + 3) a b lv st M := h
    unfold e_put at h
    by_cases g1 : (e_fk a).getD b 0 = 1
    · rw [if_pos g1] at h
      obtain ⟨t, v, r, rfl, h1, h⟩ := e_rpl_inv h
      refine Or.inl ⟨_, _, _, _, _, _, lv2, h, id, hs, hf, fun k2 cal2 Q2 g => ⟨ha, ?_⟩⟩
      show e_put k2 kc ks (pc + 3) a b lv2 _ M
      unfold e_put
      rw [if_pos g1]
      exact ⟨h1, g⟩
    · rw [if_neg g1] at h
      by_cases g2 : (e_fk a).getD b 0 = 2
      · rw [if_pos g2] at h
        obtain ⟨t, v, r, rfl, h1, h⟩ := e_rpr_inv h
        refine Or.inl ⟨_, _, _, _, _, _, lv2, h, id, hs, hf, fun k2 cal2 Q2 g => ⟨ha, ?_⟩⟩
        show e_put k2 kc ks (pc + 3) a b lv2 _ M
        unfold e_put
        rw [if_neg g1, if_pos g2]
        exact ⟨h1, g⟩
      · rw [if_neg g2] at h
        obtain ⟨t, v, r, rfl, h1, h3, h⟩ := e_rpi_inv h
        refine Or.inl ⟨_, _, _, _, _, _, lv2, h, id, hs, hf, fun k2 cal2 Q2 g => ⟨ha, ?_⟩⟩
        show e_put k2 kc ks (pc + 3) a b lv2 _ M
        unfold e_put
        rw [if_neg g1, if_neg g2]
        exact ⟨h1, h3, g⟩
  | getstatic x =>
    obtain ⟨ha, h⟩ := h
    exact Or.inl ⟨_, _, _, _, _, _, lv2, h, id, hs, hf, fun k2 cal2 Q2 g => ⟨ha, g⟩⟩
  | iaload =>
    obtain ⟨t, i, r, rfl, h1, h⟩ := e_ri_inv h
    exact Or.inl ⟨_, _, _, _, _, _, lv2, h, id, hs, hf, fun k2 cal2 Q2 g => ⟨h1, g⟩⟩
  | baload =>
    obtain ⟨t, i, r, rfl, h1, h⟩ := e_ri_inv h
    exact Or.inl ⟨_, _, _, _, _, _, lv2, h, id, hs, hf, fun k2 cal2 Q2 g => ⟨h1, g⟩⟩
  | laload =>
    obtain ⟨t, i, r, rfl, h1, h⟩ := e_ri_inv h
    exact Or.inl ⟨_, _, _, _, _, _, lv2, h, id, hs, hf, fun k2 cal2 Q2 g => ⟨h1, g⟩⟩
  | aaload =>
    obtain ⟨t, i, r, rfl, h1, h⟩ := e_ri_inv h
    exact Or.inl ⟨_, _, _, _, _, _, lv2, h, id, hs, hf, fun k2 cal2 Q2 g => ⟨h1, g⟩⟩
  | iastore =>
    obtain ⟨t, i, x, r, rfl, h1, h⟩ := e_rii_inv h
    exact Or.inl ⟨_, _, _, _, _, _, lv2, h, id, hs, hf, fun k2 cal2 Q2 g => ⟨h1, g⟩⟩
  | bastore =>
    obtain ⟨t, i, x, r, rfl, h1, h⟩ := e_rii_inv h
    exact Or.inl ⟨_, _, _, _, _, _, lv2, h, id, hs, hf, fun k2 cal2 Q2 g => ⟨h1, g⟩⟩
  | lastore =>
    obtain ⟨t, i, x, r, rfl, h1, h⟩ := e_ril_inv h
    exact Or.inl ⟨_, _, _, _, _, _, lv2, h, id, hs, hf, fun k2 cal2 Q2 g => ⟨h1, g⟩⟩
  | aastore =>
    obtain ⟨t, i, x, r, rfl, h1, h⟩ := e_rir_inv h
    exact Or.inl ⟨_, _, _, _, _, _, lv2, h, id, hs, hf, fun k2 cal2 Q2 g => ⟨h1, g⟩⟩
  | arraylength =>
    obtain ⟨t, r, rfl, h1, h⟩ := e_r1_inv h
    exact Or.inl ⟨_, _, _, _, _, _, lv2, h, id, hs, hf, fun k2 cal2 Q2 g => ⟨h1, g⟩⟩
  | new x =>
    by_cases h9 : 91 ≤ a
    · have key : ∀ (k : eK) (cal : eC) (Q : eQ) (lv : eL), e_ins L k cal Q ret kc ks pc (.new x, len, a, b, z) lv st M ↔ (a ≤ 94 ∧ (1 ≤ kc ∧ st = []) ∧ 6 ≤ ks ∧ Q (some (.retAddr a)) M) := by
        intro k cal Q lv
        unfold e_ins
        simp only [if_pos h9]
      obtain ⟨h1, h2, h3, h⟩ := (key _ _ _ _).mp h
      exact Or.inr (Or.inr ⟨_, h, fun k2 cal2 Q2 g => (key _ _ _ _).mpr ⟨h1, h2, h3, g⟩⟩)
    · have key : ∀ (k : eK) (cal : eC) (Q : eQ) (lv : eL), e_ins L k cal Q ret kc ks pc (.new x, len, a, b, z) lv st M ↔ (a < 20 ∧ 1 ≤ kc ∧ (e_fk a).length ≤ ks ∧ k (kc - 1) (ks - (e_fk a).length) (pc + 3) lv (.ref M.1 :: st) (e_new M a 0)) := by
        intro k cal Q lv
        unfold e_ins
        simp only [if_neg h9]
      obtain ⟨h1, h2, h3, h⟩ := (key _ _ _ _).mp h
      exact Or.inl ⟨_, _, _, _, _, _, lv2, h, id, hs, hf, fun k2 cal2 Q2 g => (key _ _ _ _).mpr ⟨h1, h2, h3, g⟩⟩
  | newarray t =>
    obtain ⟨n, r, rfl, h1, h2, h3, h4, h5, h⟩ := e_i1_inv h
    exact Or.inl ⟨_, _, _, _, _, _, lv2, h, id, hs, hf, fun k2 cal2 Q2 g => ⟨h1, h2, h3, h4, h5, g⟩⟩
  | anewarray x =>
    obtain ⟨n, r, rfl, h1, h2, h3, h4, h5, h⟩ := e_i1_inv h
    exact Or.inl ⟨_, _, _, _, _, _, lv2, h, id, hs, hf, fun k2 cal2 Q2 g => ⟨h1, h2, h3, h4, h5, g⟩⟩
  | invokevirtual x =>
    obtain ⟨h1, h2, h⟩ := h
    obtain ⟨t, r, hst, h3, h8, mc, ms, h4, h5, h⟩ := e_r1_inv h
    refine Or.inr (Or.inl ⟨_, mc, ms, _, _, r, h, fun k2 cal2 Q2 g => ⟨h1, h2, ?_⟩⟩)
    show e_r1 (st.drop z.toNat) _
    rw [show st.drop z.toNat = .ref t :: r from hst]
    exact ⟨h3, h8, mc, ms, h4, h5, g⟩
  | invokestatic x =>
    by_cases h9 : a = 901
    · subst h9
      have h : e_cp st fun a sp b dp n r => e_cg M a sp b dp n ∧ (r.map fun v => v.category).sum ≤ 8 ∧ k kc ks (pc + 3) lv r (e_cpy M a sp b dp n) := h
      obtain ⟨a0, sp, b0, dp, n, r, rfl, h1, h2, h⟩ := e_cp_inv h
      exact Or.inl ⟨_, _, _, _, _, _, lv2, h, id, hs, hf, fun k2 cal2 Q2 g => ⟨h1, h2, g⟩⟩
    · by_cases h5 : a = 905
      · subst h5
        have h : e_i2 st fun x y r => (r.map fun v => v.category).sum ≤ 8 ∧ k kc ks (pc + 3) lv (.int (if x < y then y else x) :: r) M := h
        obtain ⟨x0, y0, r, rfl, h1, h⟩ := e_i2_inv h
        exact Or.inl ⟨_, _, _, _, _, _, lv2, h, id, hs, hf, fun k2 cal2 Q2 g => ⟨h1, g⟩⟩
      by_cases h6 : a = 906
      · subst h6
        have h : e_i2 st fun x y r => (r.map fun v => v.category).sum ≤ 8 ∧ k kc ks (pc + 3) lv (.int (if y < x then y else x) :: r) M := h
        obtain ⟨x0, y0, r, rfl, h1, h⟩ := e_i2_inv h
        exact Or.inl ⟨_, _, _, _, _, _, lv2, h, id, hs, hf, fun k2 cal2 Q2 g => ⟨h1, g⟩⟩
      have key : ∀ (k : eK) (cal : eC) (Q : eQ) (lv : eL), e_ins L k cal Q ret kc ks pc (.invokestatic x, len, a, b, z) lv st M ↔ (a < 900 ∧ z.toNat ≤ st.length ∧ e_cal k cal a kc ks (pc + 3) (st.take z.toNat).reverse lv (st.drop z.toNat) M) := by
        intro k cal Q lv
        unfold e_ins
        simp only [if_neg h9, if_neg h5, if_neg h6]
      obtain ⟨h1, h2, h8, mc, ms, h4, h5, h⟩ := (key _ _ _ _).mp h
      exact Or.inr (Or.inl ⟨_, mc, ms, _, _, _, h, fun k2 cal2 Q2 g => (key _ _ _ _).mpr ⟨h1, h2, h8, mc, ms, h4, h5, g⟩⟩)
  | invokespecial x =>
    by_cases h9 : a = 900
    · subst h9
      have h : e_r1 st fun o r => e_c0 ≤ o ∧ (r.map fun v => v.category).sum ≤ 8 ∧ k kc ks (pc + 3) lv r M := h
      obtain ⟨t, r, rfl, h1, h2, h⟩ := e_r1_inv h
      exact Or.inl ⟨_, _, _, _, _, _, lv2, h, id, hs, hf, fun k2 cal2 Q2 g => ⟨h1, h2, g⟩⟩
    · have key : ∀ (k : eK) (cal : eC) (Q : eQ) (lv : eL), e_ins L k cal Q ret kc ks pc (.invokespecial x, len, a, b, z) lv st M ↔ (a < 900 ∧ z.toNat ≤ st.length ∧ e_r1 (st.drop z.toNat) fun o r => e_c0 ≤ o ∧ e_cal k cal a kc ks (pc + 3) (.ref o :: (st.take z.toNat).reverse) lv r M) := by
        intro k cal Q lv
        unfold e_ins
        simp only [if_neg h9]
      obtain ⟨h1, h2, h⟩ := (key _ _ _ _).mp h
      obtain ⟨t, r, hst, h3, h8, mc, ms, h4, h5, h⟩ := e_r1_inv h
      refine Or.inr (Or.inl ⟨_, mc, ms, _, _, r, h, fun k2 cal2 Q2 g => (key _ _ _ _).mpr ⟨h1, h2, ?_⟩⟩)
      rw [hst]
      exact ⟨h3, h8, mc, ms, h4, h5, g⟩
  | return_ =>
    obtain ⟨h1, h2, h⟩ := h
    exact Or.inr (Or.inr ⟨_, h, fun k2 cal2 Q2 g => ⟨h1, h2, g⟩⟩)
  | ireturn =>
    obtain ⟨x, r, rfl, h1, h2, h⟩ := e_i1_inv h
    exact Or.inr (Or.inr ⟨_, h, fun k2 cal2 Q2 g => ⟨h1, h2, g⟩⟩)
  | lreturn =>
    obtain ⟨x, r, rfl, h1, h2, h⟩ := e_l1_inv h
    exact Or.inr (Or.inr ⟨_, h, fun k2 cal2 Q2 g => ⟨h1, h2, g⟩⟩)
  | areturn =>
    obtain ⟨x, r, rfl, h1, h2, h⟩ := e_r1_inv h
    exact Or.inr (Or.inr ⟨_, h, fun k2 cal2 Q2 g => ⟨h1, h2, g⟩⟩)
  | _ => exact False.elim h
