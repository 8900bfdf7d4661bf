/-! ===== pure: what flows through a method ===== -/
def tkN : List Nat := [0, 0, 0, 0, 1, 1, 1, 2, 2, 2, 2, 2, 2, 2, 2, 2, 2, 2, 2, 1, 0, 0, 1, 1, 1, 1, 1, 1, 2, 2, 2, 2, 2, 2, 1, 1, 2, 2, 0, 1, 2, 1, 2, 3, 1, 1, 1, 0, 0, 0, 1, 1, 0, 1]
def puN : List Nat := [1, 1, 1, 1, 0, 0, 2, 2, 1, 1, 1, 1, 1, 1, 1, 1, 1, 1, 1, 1, 0, 0, 0, 0, 0, 0, 0, 0, 0, 0, 0, 0, 0, 0, 0, 0, 0, 0, 1, 1, 0, 1, 1, 0, 1, 1, 1, 0, 0, 0, 0, 0, 1, 0]
theorem tkN_ok : ∀ k, k < 54 → e_tk.getD k 0 = N (tkN.getD k 0) ∧ e_pu.getD k 0 = N (puN.getD k 0) ∧ tkN.getD k 0 ≤ 3 ∧ puN.getD k 0 ≤ 2 := by decide
theorem Y.tk {L xs M} (h : Y L xs M) {k : Nat} (hk : k < 54) : gi M 3 k = N (tkN.getD k 0) ∧ gi M 4 k = N (puN.getD k 0) := by
  rw [h.2.2.2.2.1 k, h.2.2.2.2.2 k]; exact ⟨(tkN_ok k hk).1, (tkN_ok k hk).2.1⟩
/-- how many are taken, how many are put -/
def tkD (D : eF) (m j : Nat) : Nat := if cdD D m j = 47 then D 169 (cdD D m (j + 1)) else if cdD D m j = 48 then D 166 (cdD D m (j + 1)) + 1 else tkN.getD (cdD D m j) 0
def rtD (D : eF) (m j : Nat) : Nat := if cdD D m j = 47 then D 171 (cdD D m (j + 1)) else D 168 (cdD D m (j + 1))
def puD (D : eF) (m j : Nat) : Nat := if cdD D m j = 47 ∨ cdD D m j = 48 then (if rtD D m j = 0 then 0 else 1) else puN.getD (cdD D m j) 0
/-- the kind that is put -/
def kpD (D : eF) (m j : Nat) : Nat := if cdD D m j = 2 then 3 else if cdD D m j = 38 ∨ cdD D m j = 46 then 16 + cdD D m (j + 1) else if cdD D m j = 39 then D 165 (cdD D m (j + 1) * 8 + cdD D m (j + 2)) else if cdD D m j = 41 then 2 else if cdD D m j = 47 ∨ cdD D m j = 48 then rtD D m j else 1
/-- what is before an instruction: 0 never, 1 a clash, else 2 more than the height; the kinds -/
abbrev eS : Type := Nat × (Nat → Nat)
def okH (D : eF) (m j h : Nat) : Prop := tkD D m j ≤ h ∧ h - tkD D m j + puD D m j ≤ D 173 m
def bhK (D : eF) (m j h : Nat) (k : Nat → Nat) : Nat → Nat := fun i =>
  if cdD D m j = 3 ∧ i = 8 + h then k (cdD D m (j + 1)) else if cdD D m j = 4 ∧ i = cdD D m (j + 1) then k (8 + h - 1)
  else if cdD D m j = 6 ∧ (i = 8 + h - 1 ∨ i = 8 + h) then k (8 + h - 1) else if cdD D m j = 7 ∧ i = 8 + h - 2 then k (8 + h - 1) else if cdD D m j = 7 ∧ i = 8 + h - 1 then k (8 + h - 2)
  else if (cdD D m j ≠ 3 ∧ cdD D m j ≠ 4 ∧ cdD D m j ≠ 6 ∧ cdD D m j ≠ 7) ∧ puD D m j = 1 ∧ i = 8 + (h - tkD D m j) then kpD D m j
  else if 8 + (h - tkD D m j) ≤ i then 0 else k i
def sucD (D : eF) (m j t : Nat) : Prop := (cdD D m j = 53 ∧ ∃ i, i ≤ cdD D m (j + 1) ∧ t = cdD D m (j + 2 + i)) ∨ (21 ≤ cdD D m j ∧ cdD D m j ≤ 37 ∧ t = cdD D m (j + 1)) ∨ (cdD D m j ≠ 21 ∧ cdD D m j ≠ 49 ∧ cdD D m j ≠ 50 ∧ cdD D m j ≠ 53 ∧ t = j + il D m j)
/-- o is what is behind s at j -/
def outS (D : eF) (m j : Nat) (s o : eS) : Prop := (s.1 = 1 ∧ o.1 = 1) ∨ (2 ≤ s.1 ∧ ¬ okH D m j (s.1 - 2) ∧ o.1 = 1) ∨ (2 ≤ s.1 ∧ okH D m j (s.1 - 2) ∧ o.1 = s.1 - tkD D m j + puD D m j ∧ ∀ i, i < 16 → o.2 i = bhK D m j (s.1 - 2) s.2 i)
def leS (D : eF) (a b : eS) : Prop := a.1 = 0 ∨ b.1 = 1 ∨ (2 ≤ a.1 ∧ a.1 = b.1 ∧ ∀ i, i < 16 → leK D (a.2 i) (b.2 i))
def eqS (a b : eS) : Prop := a.1 = b.1 ∧ (2 ≤ a.1 → ∀ i, i < 16 → a.2 i = b.2 i)
def enS (D : eF) (m : Nat) : eS := (2, fun i => if i < D 169 m then D 170 (4 * m + i) else 0)
/-- a state that may stand before an instruction -/
def wfS (D : eF) (s : eS) : Prop := 2 ≤ s.1 → s.1 ≤ 10 ∧ (∀ i, i < 16 → vk (D 0 0) (s.2 i)) ∧ ∀ i, 8 + (s.1 - 2) ≤ i → i < 16 → s.2 i = 0
/-- a solution -/
def Sol (D : eF) (m : Nat) (T : Nat → eS) : Prop := (∀ j, wfS D (T j)) ∧ leS D (enS D m) (T 0) ∧ ∀ j t o, bg D m j → (T j).1 ≠ 0 → sucD D m j t → outS D m j (T j) o → leS D o (T t)
theorem leS_rf {D} (a : eS) : leS D a a := by
  by_cases h : a.1 = 0
  · exact Or.inl h
  · by_cases h1 : a.1 = 1
    · exact Or.inr (Or.inl h1)
    · exact Or.inr (Or.inr ⟨by omega, rfl, fun i _ => leK_rf _⟩)
theorem leS_tr {D} (hD : KD D) {a b c : eS} (ha : wfS D a) (hb : wfS D b) (hc : wfS D c) (h1 : leS D a b) (h2 : leS D b c) : leS D a c := by
  rcases h1 with h | h | ⟨x1, x2, x3⟩
  · exact Or.inl h
  · rcases h2 with z | z | ⟨y1, y2, y3⟩
    · omega
    · exact Or.inr (Or.inl z)
    · omega
  · rcases h2 with z | z | ⟨y1, y2, y3⟩
    · omega
    · exact Or.inr (Or.inl z)
    · exact Or.inr (Or.inr ⟨x1, by omega, fun i hi => leK_tr hD.1.1 hD.cl ((ha x1).2.1 i hi) ((hb y1).2.1 i hi) ((hc (by omega)).2.1 i hi) (x3 i hi) (y3 i hi)⟩)
theorem leS_as {D} (hD : KD D) {a b : eS} (ha : wfS D a) (hb : wfS D b) (h1 : leS D a b) (h2 : leS D b a) : eqS a b := by
  rcases h1 with h | h | ⟨x1, x2, x3⟩
  · rcases h2 with z | z | ⟨y1, y2, y3⟩
    · exact ⟨by omega, fun _ => by omega⟩
    · omega
    · omega
  · rcases h2 with z | z | ⟨y1, y2, y3⟩
    · omega
    · exact ⟨by omega, fun _ => by omega⟩
    · omega
  · rcases h2 with z | z | ⟨y1, y2, y3⟩
    · omega
    · omega
    · exact ⟨x2, fun _ i hi => leK_as hD.1.1 hD.cl ((ha x1).2.1 i hi) ((hb y1).2.1 i hi) (x3 i hi) (y3 i hi)⟩
theorem bhK_mono {D m j h} {k k' : Nat → Nat} (hk : ∀ i, i < 16 → leK D (k i) (k' i)) (ha : cdD D m j = 3 → cdD D m (j + 1) < 8) (hh : h ≤ 8) (h1 : cdD D m j = 4 ∨ cdD D m j = 6 ∨ cdD D m j = 7 → 1 ≤ h) (h2 : cdD D m j = 7 → 2 ≤ h) : ∀ i, i < 16 → leK D (bhK D m j h k i) (bhK D m j h k' i) := by
  intro i hi
  unfold bhK
  by_cases c1 : cdD D m j = 3 ∧ i = 8 + h
  · rw [if_pos c1, if_pos c1]; exact hk _ (by have := ha c1.1; omega)
  rw [if_neg c1, if_neg c1]
  by_cases c2 : cdD D m j = 4 ∧ i = cdD D m (j + 1)
  · rw [if_pos c2, if_pos c2]; exact hk _ (by have := h1 (Or.inl c2.1); omega)
  rw [if_neg c2, if_neg c2]
  by_cases c3 : cdD D m j = 6 ∧ (i = 8 + h - 1 ∨ i = 8 + h)
  · rw [if_pos c3, if_pos c3]; exact hk _ (by have := h1 (Or.inr (Or.inl c3.1)); omega)
  rw [if_neg c3, if_neg c3]
  by_cases c4 : cdD D m j = 7 ∧ i = 8 + h - 2
  · rw [if_pos c4, if_pos c4]; exact hk _ (by have := h2 c4.1; omega)
  rw [if_neg c4, if_neg c4]
  by_cases c5 : cdD D m j = 7 ∧ i = 8 + h - 1
  · rw [if_pos c5, if_pos c5]; exact hk _ (by have := h2 c5.1; omega)
  rw [if_neg c5, if_neg c5]
  by_cases c6 : (cdD D m j ≠ 3 ∧ cdD D m j ≠ 4 ∧ cdD D m j ≠ 6 ∧ cdD D m j ≠ 7) ∧ puD D m j = 1 ∧ i = 8 + (h - tkD D m j)
  · rw [if_pos c6, if_pos c6]; exact Or.inl rfl
  rw [if_neg c6, if_neg c6]
  by_cases c7 : 8 + (h - tkD D m j) ≤ i
  · rw [if_pos c7, if_pos c7]; exact Or.inl rfl
  · rw [if_neg c7, if_neg c7]; exact hk i hi
theorem tk467 {D m j} (h : cdD D m j = 4 ∨ cdD D m j = 6) : tkD D m j = 1 := by
  unfold tkD
  rcases h with h | h <;> rw [h] <;> rfl
theorem tk7 {D m j} (h : cdD D m j = 7) : tkD D m j = 2 := by unfold tkD; rw [h]; rfl
theorem outS_mono {D m j} {s s' o o' : eS} (hs : wfS D s) (hs' : wfS D s') (ha : cdD D m j = 3 → cdD D m (j + 1) < 8) (h : leS D s s') (h0 : s.1 ≠ 0) (h1 : outS D m j s o) (h2 : outS D m j s' o') : leS D o o' := by
  rcases h with z | z | ⟨x1, x2, x3⟩
  · exact absurd z h0
  · rcases h2 with y | y | y
    · exact Or.inr (Or.inl y.2)
    · omega
    · omega
  · rcases h1 with y | y | y
    · omega
    · rcases h2 with w | w | w
      · exact Or.inr (Or.inl w.2)
      · exact Or.inr (Or.inl w.2.2)
      · rw [← x2] at w; exact absurd w.2.1 y.2.1
    · rcases h2 with w | w | w
      · exact Or.inr (Or.inl w.2)
      · exact Or.inr (Or.inl w.2.2)
      · have hl := (hs x1).1
        have ho := y.2.1
        unfold okH at ho
        refine Or.inr (Or.inr ⟨by omega, by omega, fun i hi => ?_⟩)
        rw [y.2.2.2 i hi, w.2.2.2 i hi, ← x2]
        exact bhK_mono x3 ha (by omega) (fun z => by
          rcases z with z | z | z
          · have := tk467 (D := D) (m := m) (j := j) (Or.inl z); omega
          · have := tk467 (D := D) (m := m) (j := j) (Or.inr z); omega
          · have := tk7 z; omega) (fun z => by have := tk7 z; omega) i hi
/-- least: nothing below any solution is missed -/
def below (D : eF) (m : Nat) (T : Nat → eS) : Prop := ∀ U, Sol D m U → ∀ j, leS D (T j) (U j)
theorem sol_uniq {D m} (hD : KD D) {T U : Nat → eS} (h1 : Sol D m T) (h2 : Sol D m U) (b1 : below D m T) (b2 : below D m U) (j : Nat) : eqS (T j) (U j) :=
  leS_as hD (h1.1 j) (h2.1 j) (b1 U h2 j) (b2 T h1 j)
