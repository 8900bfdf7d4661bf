/-! ===== pure: kinds and how they join ===== -/
theorem KD.cl {D} (h : KD D) : ClF (D 0 0) D := fun c hc => (h.2.1 c hc).1
section KL
variable {nC : Nat} {F : eF}
theorem an_le (h : ClF nC F) : ∀ a, a < nC → ∀ b, (F 4 a).testBit b = true → b ≤ a := by
  intro a
  induction a using Nat.strongRecOn with
  | _ a ih =>
    intro ha b hb
    rw [h.bit ha b] at hb
    by_cases e : a = b
    · omega
    · simp [e] at hb
      have := (h a ha).1
      have := ih (F 163 a - 1) (by omega) (by omega) b hb.2
      omega
theorem an_rf (h : ClF nC F) {a : Nat} (ha : a < nC) : (F 4 a).testBit a = true := by rw [h.bit ha a]; simp
theorem an_tr (h : ClF nC F) : ∀ a, a < nC → ∀ b c, (F 4 a).testBit b = true → (F 4 b).testBit c = true → (F 4 a).testBit c = true := by
  intro a
  induction a using Nat.strongRecOn with
  | _ a ih =>
    intro ha b c hb hc
    rw [h.bit ha b] at hb
    by_cases e : a = b
    · subst e; exact hc
    · simp [e] at hb
      have := (h a ha).1
      have := ih (F 163 a - 1) (by omega) (by omega) b c hb.2 hc
      rw [h.bit ha c, this]
      simp [hb.1]
theorem an_ch (h : ClF nC F) : ∀ a, a < nC → ∀ b c, (F 4 a).testBit b = true → (F 4 a).testBit c = true → b ≤ c → (F 4 c).testBit b = true := by
  intro a
  induction a using Nat.strongRecOn with
  | _ a ih =>
    intro ha b c hb hc hbc
    by_cases e : a = c
    · subst e; exact hb
    · have hca := an_le h a ha c hc
      have e2 : a ≠ b := by omega
      rw [h.bit ha b] at hb
      rw [h.bit ha c] at hc
      simp [e] at hc
      simp [e2] at hb
      have := (h a ha).1
      exact ih (F 163 a - 1) (by omega) (by omega) b c hb.2 hc.2 hbc
end KL
def vk (nC k : Nat) : Prop := k = 0 ∨ k = 1 ∨ k = 2 ∨ k = 3 ∨ k = 15 ∨ (16 ≤ k ∧ k < 16 + nC)
def isR (k : Nat) : Prop := k = 2 ∨ 15 ≤ k
/-- b says less than a, or the same -/
def leK (F : eF) (a b : Nat) : Prop := a = b ∨ b = 0 ∨ (a = 3 ∧ isR b) ∨ (15 ≤ a ∧ b = 15) ∨ (16 ≤ a ∧ 16 ≤ b ∧ (F 4 (a - 16)).testBit (b - 16) = true)
def topK (f : Nat → Bool) : Nat → Nat
  | 0 => 15
  | n + 1 => if f n = true then 16 + n else topK f n
theorem topK_spec (f : Nat → Bool) : ∀ n, (topK f n = 15 ∧ ∀ c, c < n → f c = false) ∨ (∃ c, c < n ∧ topK f n = 16 + c ∧ f c = true ∧ ∀ c', c < c' → c' < n → f c' = false)
  | 0 => Or.inl ⟨rfl, fun c hc => by omega⟩
  | n + 1 => by
    unfold topK
    by_cases e : f n = true
    · rw [if_pos e]
      exact Or.inr ⟨n, by omega, rfl, e, fun c' h1 h2 => by omega⟩
    · rw [if_neg e]
      have e' : f n = false := by cases h : f n <;> simp_all
      rcases topK_spec f n with ⟨h1, h2⟩ | ⟨c, h1, h2, h3, h4⟩
      · refine Or.inl ⟨h1, fun c hc => ?_⟩
        by_cases ec : c = n
        · subst ec; exact e'
        · exact h2 c (by omega)
      · refine Or.inr ⟨c, by omega, h2, h3, fun c' y1 y2 => ?_⟩
        by_cases ec : c' = n
        · subst ec; exact e'
        · exact h4 c' y1 (by omega)
def cmB (F : eF) (a b : Nat) : Nat → Bool := fun c => (F 4 (a - 16)).testBit c && (F 4 (b - 16)).testBit c
def jn (F : eF) (a b : Nat) : Nat := if a = b then b else if a = 3 ∧ (b = 2 ∨ 15 ≤ b) then b else if b = 3 ∧ (a = 2 ∨ 15 ≤ a) then a else if a < 15 ∨ b < 15 then 0 else if a = 15 ∨ b = 15 then 15 else topK (cmB F a b) 8
def rkK (k : Nat) : Nat := if k = 0 then 12 else if k = 1 then 1 else if k = 2 then 1 else if k = 3 then 0 else if k = 15 then 11 else 26 - k
theorem cmB_iff {F a b c} : cmB F a b c = true ↔ (F 4 (a - 16)).testBit c = true ∧ (F 4 (b - 16)).testBit c = true := by unfold cmB; rw [Bool.and_eq_true]
theorem leK_rf {F : eF} (a : Nat) : leK F a a := Or.inl rfl
theorem leK_tr {nC : Nat} {F : eF} (hC : nC ≤ 8) (h : ClF nC F) {a b c : Nat} (ha : vk nC a) (hb : vk nC b) (hc : vk nC c) (h1 : leK F a b) (h2 : leK F b c) : leK F a c := by
  unfold leK isR at *
  unfold vk at ha hb hc
  by_cases e1 : a = b
  · subst e1; exact h2
  by_cases e2 : b = c
  · subst e2; exact h1
  by_cases e3 : c = 0
  · exact Or.inr (Or.inl e3)
  by_cases e4 : a = 3
  · exact Or.inr (Or.inr (Or.inl ⟨e4, by omega⟩))
  by_cases e5 : c = 15
  · exact Or.inr (Or.inr (Or.inr (Or.inl ⟨by omega, e5⟩)))
  have a16 : 16 ≤ a ∧ 16 ≤ b ∧ (F 4 (a - 16)).testBit (b - 16) = true := by
    rcases h1 with z | z | z | z | z
    · omega
    · omega
    · omega
    · omega
    · exact z
  have b16 : 16 ≤ b ∧ 16 ≤ c ∧ (F 4 (b - 16)).testBit (c - 16) = true := by
    rcases h2 with z | z | z | z | z
    · omega
    · omega
    · omega
    · omega
    · exact z
  exact Or.inr (Or.inr (Or.inr (Or.inr ⟨a16.1, b16.2.1, an_tr h _ (by omega) _ _ a16.2.2 b16.2.2⟩)))
theorem leK_as {nC : Nat} {F : eF} (hC : nC ≤ 8) (h : ClF nC F) {a b : Nat} (ha : vk nC a) (hb : vk nC b) (h1 : leK F a b) (h2 : leK F b a) : a = b := by
  unfold leK isR at *
  unfold vk at ha hb
  by_cases e : a = b
  · exact e
  · exfalso
    have x1 : 16 ≤ a ∧ 16 ≤ b ∧ (F 4 (a - 16)).testBit (b - 16) = true := by
      rcases h1 with z | z | z | z | z
      · omega
      · omega
      · omega
      · omega
      · exact z
    have x2 : 16 ≤ b ∧ 16 ≤ a ∧ (F 4 (b - 16)).testBit (a - 16) = true := by
      rcases h2 with z | z | z | z | z
      · omega
      · omega
      · omega
      · omega
      · exact z
    have := an_le h _ (by omega) _ x1.2.2
    have := an_le h _ (by omega) _ x2.2.2
    omega
theorem rkK_lt {nC : Nat} {F : eF} (hC : nC ≤ 8) (h : ClF nC F) {a b : Nat} (ha : vk nC a) (hb : vk nC b) (h1 : leK F a b) (hne : a ≠ b) : rkK a < rkK b := by
  unfold leK isR at h1
  unfold vk at ha hb
  have hx : 16 ≤ a → 16 ≤ b → b < a := by
    intro y1 y2
    have x1 : 16 ≤ a ∧ 16 ≤ b ∧ (F 4 (a - 16)).testBit (b - 16) = true := by
      rcases h1 with z | z | z | z | z
      · omega
      · omega
      · omega
      · omega
      · exact z
    have := an_le h _ (by omega) _ x1.2.2
    omega
  have h1' : a = b ∨ b = 0 ∨ (a = 3 ∧ (b = 2 ∨ 15 ≤ b)) ∨ (15 ≤ a ∧ b = 15) ∨ (16 ≤ a ∧ 16 ≤ b) := by
    rcases h1 with z | z | z | z | z
    · exact Or.inl z
    · exact Or.inr (Or.inl z)
    · exact Or.inr (Or.inr (Or.inl z))
    · exact Or.inr (Or.inr (Or.inr (Or.inl z)))
    · exact Or.inr (Or.inr (Or.inr (Or.inr ⟨z.1, z.2.1⟩)))
  unfold rkK
  repeat' split
  all_goals omega
theorem jn_cases {nC : Nat} {F : eF} (hC : nC ≤ 8) (h : ClF nC F) {a b : Nat} (ha : vk nC a) (hb : vk nC b) : (a = b ∧ jn F a b = b) ∨ (a ≠ b ∧ a = 3 ∧ isR b ∧ jn F a b = b) ∨ (a ≠ b ∧ b = 3 ∧ isR a ∧ jn F a b = a) ∨ (a ≠ b ∧ (a < 15 ∨ b < 15) ∧ ¬ (a = 3 ∧ isR b) ∧ ¬ (b = 3 ∧ isR a) ∧ jn F a b = 0) ∨ (a ≠ b ∧ 15 ≤ a ∧ 15 ≤ b ∧ (a = 15 ∨ b = 15) ∧ jn F a b = 15) ∨ (a ≠ b ∧ 16 ≤ a ∧ 16 ≤ b ∧ jn F a b = topK (cmB F a b) 8) := by
  unfold jn isR
  by_cases e1 : a = b
  · rw [if_pos e1]; exact Or.inl ⟨e1, rfl⟩
  rw [if_neg e1]
  by_cases e2 : a = 3 ∧ (b = 2 ∨ 15 ≤ b)
  · rw [if_pos e2]; exact Or.inr (Or.inl ⟨e1, e2.1, e2.2, rfl⟩)
  rw [if_neg e2]
  by_cases e3 : b = 3 ∧ (a = 2 ∨ 15 ≤ a)
  · rw [if_pos e3]; exact Or.inr (Or.inr (Or.inl ⟨e1, e3.1, e3.2, rfl⟩))
  rw [if_neg e3]
  by_cases e4 : a < 15 ∨ b < 15
  · rw [if_pos e4]; exact Or.inr (Or.inr (Or.inr (Or.inl ⟨e1, e4, e2, e3, rfl⟩)))
  rw [if_neg e4]
  by_cases e5 : a = 15 ∨ b = 15
  · rw [if_pos e5]; exact Or.inr (Or.inr (Or.inr (Or.inr (Or.inl ⟨e1, by omega, by omega, e5, rfl⟩))))
  rw [if_neg e5]
  exact Or.inr (Or.inr (Or.inr (Or.inr (Or.inr ⟨e1, by omega, by omega, rfl⟩))))
theorem jn_top {nC : Nat} {F : eF} (hC : nC ≤ 8) (h : ClF nC F) {a b : Nat} (ha : vk nC a) (hb : vk nC b) (a16 : 16 ≤ a) (b16 : 16 ≤ b) : (topK (cmB F a b) 8 = 15 ∧ ∀ c, ¬ ((F 4 (a - 16)).testBit c = true ∧ (F 4 (b - 16)).testBit c = true)) ∨ (∃ c, c < nC ∧ topK (cmB F a b) 8 = 16 + c ∧ ((F 4 (a - 16)).testBit c = true ∧ (F 4 (b - 16)).testBit c = true) ∧ ∀ c', (F 4 (a - 16)).testBit c' = true ∧ (F 4 (b - 16)).testBit c' = true → c' ≤ c) := by
  unfold vk at ha hb
  have hlt : ∀ c, (F 4 (a - 16)).testBit c = true → c < nC := fun c hc => by have := an_le h (a - 16) (by omega) c hc; omega
  rcases topK_spec (cmB F a b) 8 with ⟨h1, h2⟩ | ⟨c, h1, h2, h3, h4⟩
  · refine Or.inl ⟨h1, fun c hc => ?_⟩
    have := hlt c hc.1
    have := h2 c (by omega)
    rw [cmB_iff.mpr hc] at this
    exact absurd this (by decide)
  · have h3' := cmB_iff.mp h3
    refine Or.inr ⟨c, hlt c h3'.1, h2, h3', fun c' hc' => ?_⟩
    by_cases e : c' ≤ c
    · exact e
    · exfalso
      have := hlt c' hc'.1
      have := h4 c' (by omega) (by omega)
      rw [cmB_iff.mpr hc'] at this
      exact absurd this (by decide)
theorem jn_vk {nC : Nat} {F : eF} (hC : nC ≤ 8) (h : ClF nC F) {a b : Nat} (ha : vk nC a) (hb : vk nC b) : vk nC (jn F a b) := by
  rcases jn_cases hC h ha hb with ⟨-, e⟩ | ⟨-, -, -, e⟩ | ⟨-, -, -, e⟩ | ⟨-, -, -, -, e⟩ | ⟨-, -, -, -, e⟩ | ⟨-, a16, b16, e⟩
  · rw [e]; exact hb
  · rw [e]; exact hb
  · rw [e]; exact ha
  · rw [e]; exact Or.inl rfl
  · rw [e]; unfold vk; omega
  · rw [e]
    rcases jn_top hC h ha hb a16 b16 with ⟨e2, -⟩ | ⟨c, hc, e2, -⟩
    · rw [e2]; unfold vk; omega
    · rw [e2]; unfold vk; omega
theorem jn_ub {nC : Nat} {F : eF} (hC : nC ≤ 8) (h : ClF nC F) {a b : Nat} (ha : vk nC a) (hb : vk nC b) : leK F a (jn F a b) ∧ leK F b (jn F a b) := by
  rcases jn_cases hC h ha hb with ⟨e0, e⟩ | ⟨-, e1, e2, e⟩ | ⟨-, e1, e2, e⟩ | ⟨-, -, -, -, e⟩ | ⟨-, e1, e2, e3, e⟩ | ⟨-, a16, b16, e⟩
  · rw [e, e0]; exact ⟨Or.inl rfl, Or.inl rfl⟩
  · rw [e]; exact ⟨Or.inr (Or.inr (Or.inl ⟨e1, e2⟩)), Or.inl rfl⟩
  · rw [e]; exact ⟨Or.inl rfl, Or.inr (Or.inr (Or.inl ⟨e1, e2⟩))⟩
  · rw [e]; exact ⟨Or.inr (Or.inl rfl), Or.inr (Or.inl rfl)⟩
  · rw [e]; exact ⟨Or.inr (Or.inr (Or.inr (Or.inl ⟨e1, rfl⟩))), Or.inr (Or.inr (Or.inr (Or.inl ⟨e2, rfl⟩)))⟩
  · rw [e]
    rcases jn_top hC h ha hb a16 b16 with ⟨e2, -⟩ | ⟨c, hc, e2, e3, -⟩
    · rw [e2]; exact ⟨Or.inr (Or.inr (Or.inr (Or.inl ⟨by omega, rfl⟩))), Or.inr (Or.inr (Or.inr (Or.inl ⟨by omega, rfl⟩)))⟩
    · rw [e2]
      refine ⟨Or.inr (Or.inr (Or.inr (Or.inr ⟨a16, by omega, ?_⟩))), Or.inr (Or.inr (Or.inr (Or.inr ⟨b16, by omega, ?_⟩)))⟩
      · rw [show 16 + c - 16 = c by omega]; exact e3.1
      · rw [show 16 + c - 16 = c by omega]; exact e3.2
theorem jn_lub {nC : Nat} {F : eF} (hC : nC ≤ 8) (h : ClF nC F) {a b c : Nat} (ha : vk nC a) (hb : vk nC b) (hc : vk nC c) (h1 : leK F a c) (h2 : leK F b c) : leK F (jn F a b) c := by
  rcases jn_cases hC h ha hb with ⟨e0, e⟩ | ⟨-, e1, e2, e⟩ | ⟨-, e1, e2, e⟩ | ⟨n0, n1, n2, n3, e⟩ | ⟨n0, e1, e2, e3, e⟩ | ⟨n0, a16, b16, e⟩
  · rw [e]; exact h2
  · rw [e]; exact h2
  · rw [e]; exact h1
  · rw [e]
    have : c = 0 := by
      unfold leK isR at *
      unfold vk at ha hb hc
      rcases h1 with z | z | z | z | z
      · rcases h2 with y | y | y | y | y
        · omega
        · omega
        · omega
        · omega
        · omega
      · exact z
      · rcases h2 with y | y | y | y | y
        · omega
        · omega
        · omega
        · omega
        · omega
      · rcases h2 with y | y | y | y | y
        · omega
        · omega
        · omega
        · omega
        · omega
      · rcases h2 with y | y | y | y | y
        · omega
        · omega
        · omega
        · omega
        · omega
    rw [this]; exact Or.inl rfl
  · rw [e]
    have : c = 0 ∨ c = 15 := by
      unfold leK isR at *
      unfold vk at ha hb hc
      rcases h1 with z | z | z | z | z
      · rcases h2 with y | y | y | y | y
        · omega
        · omega
        · omega
        · omega
        · omega
      · omega
      · omega
      · omega
      · rcases h2 with y | y | y | y | y
        · omega
        · omega
        · omega
        · omega
        · omega
    rcases this with z | z
    · exact Or.inr (Or.inl z)
    · exact Or.inl z.symm
  · rw [e]
    by_cases c0 : c = 0
    · exact Or.inr (Or.inl c0)
    by_cases c15 : c = 15
    · rcases jn_top hC h ha hb a16 b16 with ⟨e2, -⟩ | ⟨t, ht, e2, -⟩
      · exact Or.inl (by rw [e2, c15])
      · exact Or.inr (Or.inr (Or.inr (Or.inl ⟨by omega, c15⟩)))
    have x1 : 16 ≤ c ∧ (F 4 (a - 16)).testBit (c - 16) = true := by
      unfold leK isR at h1
      unfold vk at ha
      rcases h1 with z | z | z | z | z
      · subst z; exact ⟨a16, an_rf h (by omega)⟩
      · omega
      · omega
      · omega
      · exact ⟨z.2.1, z.2.2⟩
    have x2 : (F 4 (b - 16)).testBit (c - 16) = true := by
      unfold leK isR at h2
      unfold vk at hb
      rcases h2 with z | z | z | z | z
      · subst z; exact an_rf h (by omega)
      · omega
      · omega
      · omega
      · exact z.2.2
    rcases jn_top hC h ha hb a16 b16 with ⟨e2, e3⟩ | ⟨t, ht, e2, e3, e4⟩
    · exact absurd ⟨x1.2, x2⟩ (e3 _)
    · have := e4 _ ⟨x1.2, x2⟩
      refine Or.inr (Or.inr (Or.inr (Or.inr ⟨by omega, x1.1, ?_⟩)))
      rw [e2, show 16 + t - 16 = t by omega]
      exact an_ch h (a - 16) (by unfold vk at ha; omega) _ _ x1.2 e3.1 this
