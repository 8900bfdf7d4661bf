/-! ===== pure: the table ===== -/
theorem CW.fi {o : Nat → Nat → Prop} {nC k P F M M'} (h : CW nC k P F M) (g : FI o M M') (ho : ∀ a j, P + 2 ≤ a → a ≤ P + 5 → ¬ o a j) : CW nC k P F M' := by
  intro c hc
  obtain ⟨h1, h2, h3, h4, h5⟩ := h c hc
  exact ⟨by rw [g.gi (ho _ _ (by omega) (by omega))]; exact h1, by rw [g.gi (ho _ _ (by omega) (by omega))]; exact h2, by rw [g.gi (ho _ _ (by omega) (by omega))]; exact h3, h4, fun f hf => by rw [g.gi (ho _ _ (by omega) (by omega))]; exact h5 f hf⟩
theorem SW.fi {o : Nat → Nat → Prop} {nC k P G M M'} (h : SW nC k P G M) (hk : k ≤ 8) (g : FI o M M') (ho : ∀ a j, P + 7 ≤ a → a ≤ P + 22 → ¬ o a j) : SW nC k P G M' := by
  intro c hc
  obtain ⟨h1, h2, h3, h4⟩ := h c hc
  exact ⟨h1, by rw [g.gi (ho _ _ (by omega) (by omega))]; exact h2, by rw [g.gi (ho _ _ (by omega) (by omega))]; exact h3, fun f hf => by rw [g.gi (ho _ _ (by omega) (by omega))]; exact h4 f hf⟩
theorem MW.fi {o : Nat → Nat → Prop} {nC k P p H M M'} (h : MW nC k P p H M) (hk : k ≤ 16) (g : FI o M M') (ho : ∀ a j, P + 24 ≤ a → a ≤ P + 55 → ¬ o a j) : MW nC k P p H M' := by
  intro c hc
  obtain ⟨h0, h1, h2, h3, h4, h5, h6, h7⟩ := h c hc
  refine ⟨h0, ?_, ?_, fun i hi => ?_, ?_, ?_, ?_, ?_⟩
  · rw [g.gi (ho _ _ (by omega) (by omega))]; exact h1
  · rw [g.gi (ho _ _ (by omega) (by omega))]; exact h2
  · rw [g.gi (ho _ _ (by omega) (by omega))]; exact h3 i hi
  · rw [g.gi (ho _ _ (by omega) (by omega))]; exact h4
  · rw [g.gi (ho _ _ (by omega) (by omega))]; exact h5
  · rw [g.gi (ho _ _ (by omega) (by omega))]; exact h6
  · rw [g.gi (ho _ _ (by omega) (by omega))]; exact h7
theorem EqC.fi {o : Nat → Nat → Prop} {k P F M M' S} (h : EqC k P F M S) (g : FI o M M') (ho : ∀ a j, P + 2 ≤ a → a ≤ P + 5 → ¬ o a j) : EqC k P F M' S := by
  intro c hc
  obtain ⟨h1, h2, h3⟩ := h c hc
  exact ⟨h1, h2, fun f hf => by rw [g.gi (ho _ _ (by omega) (by omega))]; exact h3 f hf⟩
theorem EqS.fi {o : Nat → Nat → Prop} {k P G M M' S} (h : EqS k P G M S) (hk : k ≤ 8) (g : FI o M M') (ho : ∀ a j, P + 7 ≤ a → a ≤ P + 22 → ¬ o a j) : EqS k P G M' S := by
  intro c hc
  obtain ⟨h1, h2, h3⟩ := h c hc
  exact ⟨h1, by rw [g.gi (ho _ _ (by omega) (by omega))]; exact h2, fun f hf => by rw [g.gi (ho _ _ (by omega) (by omega))]; exact h3 f hf⟩
theorem EqM.fi {o : Nat → Nat → Prop} {k P b H M M' S} (h : EqM k P b H M S) (hk : k ≤ 16) (g : FI o M M') (ho : ∀ a j, P + 24 ≤ a → a ≤ P + 55 → ¬ o a j) : EqM k P b H M' S := by
  intro c hc
  obtain ⟨h1, h2, h3, h4⟩ := h c hc
  exact ⟨h1, by rw [g.gi (ho _ _ (by omega) (by omega))]; exact h2, fun f hf => by rw [g.gi (ho _ _ (by omega) (by omega))]; exact h3 f hf, h4⟩
theorem EqC.fs {o : Nat → Nat → Prop} {k P F M S S'} (h : EqC k P F M S) (g : FI o S S') (ho : ∀ a j, 163 ≤ a → a ≤ 165 → ¬ o a j) : EqC k P F M S' := by
  intro c hc
  obtain ⟨h1, h2, h3⟩ := h c hc
  exact ⟨by rw [g.gi (ho _ _ (by omega) (by omega))]; exact h1, by rw [g.gi (ho _ _ (by omega) (by omega))]; exact h2, fun f hf => by rw [g.gi (ho _ _ (by omega) (by omega))]; exact h3 f hf⟩
theorem EqS.fs {o : Nat → Nat → Prop} {k P G M S S'} (h : EqS k P G M S) (g : FI o S S') (ho : ∀ a j, 166 ≤ a → a ≤ 168 → ¬ o a j) : EqS k P G M S' := by
  intro c hc
  obtain ⟨h1, h2, h3⟩ := h c hc
  exact ⟨by rw [g.gi (ho _ _ (by omega) (by omega))]; exact h1, by rw [g.gi (ho _ _ (by omega) (by omega))]; exact h2, fun f hf => by rw [g.gi (ho _ _ (by omega) (by omega))]; exact h3 f hf⟩
theorem EqM.fs {o : Nat → Nat → Prop} {k P b H M S S'} (h : EqM k P b H M S) (g : FI o S S') (ho : ∀ a j, 169 ≤ a → a ≤ 175 → ¬ o a j) : EqM k P b H M S' := by
  intro c hc
  obtain ⟨h1, h2, h3, h4, h5, h6, h7⟩ := h c hc
  refine ⟨?_, ?_, fun i hi => ?_, ?_, ?_, ?_, fun j hj => ?_⟩
  · rw [g.gi (ho _ _ (by omega) (by omega))]; exact h1
  · rw [g.gi (ho _ _ (by omega) (by omega))]; exact h2
  · rw [g.gi (ho _ _ (by omega) (by omega))]; exact h3 i hi
  · rw [g.gi (ho _ _ (by omega) (by omega))]; exact h4
  · rw [g.gi (ho _ _ (by omega) (by omega))]; exact h5
  · rw [g.gi (ho _ _ (by omega) (by omega))]; exact h6
  · rw [g.gi (ho _ _ (by omega) (by omega))]; exact h7 j hj
theorem SU.fi {o : Nat → Nat → Prop} {P F G H M M' c s m} (hs : s < 8) (hm : m < 16) (g : FI o M M') (ho : ∀ a j, P + 7 ≤ a → a ≤ P + 55 → ¬ o a j) : SU P F G H M' c s m ↔ SU P F G H M c s m := by
  unfold SU
  rw [g.gi (ho _ _ (by omega) (by omega)), g.gi (ho _ _ (by omega) (by omega)), g.gi (ho _ _ (by omega) (by omega))]
  constructor
  · rintro ⟨a1, a2, a3, a4, a5⟩
    exact ⟨a1, a2, a3, a4, fun i hi => by rw [← g.gi (ho _ _ (by omega) (by omega)), a5 i hi, g.gi (ho _ _ (by omega) (by omega))]⟩
  · rintro ⟨a1, a2, a3, a4, a5⟩
    exact ⟨a1, a2, a3, a4, fun i hi => by rw [g.gi (ho _ _ (by omega) (by omega)), a5 i hi, g.gi (ho _ _ (by omega) (by omega))]⟩
def TD (nS c s c' s' : Nat) : Prop := s' < nS ∧ (c' < c ∨ (c' = c ∧ s' < s))
/-- the table as far as it is read -/
def TW (P nM nS c s : Nat) (F : eF) (G : Nat → Nat) (H T : eF) (M : eM) : Prop := ∀ c' s', TD nS c s c' s' → gi M (P + 56) (c' * 8 + s') = N (T 56 (c' * 8 + s')) - N 1 ∧ T 56 (c' * 8 + s') ≤ nM ∧ T 177 (c' * 8 + s') ≤ nM ∧ T 56 (c' * 8 + s') = (if T 177 (c' * 8 + s') ≠ 0 then T 177 (c' * 8 + s') else if F 163 c' = 0 then 0 else T 56 ((F 163 c' - 1) * 8 + s')) ∧ (T 56 (c' * 8 + s') ≠ 0 → SU P F G H M c' s' (T 56 (c' * 8 + s') - 1))
def EqT (nS c s : Nat) (T : eF) (S : eM) : Prop := ∀ c' s', TD nS c s c' s' → gi S 177 (c' * 8 + s') = N (T 177 (c' * 8 + s'))
/-- what all stages before the table have left -/
def PB (L : Nat) (xs : Nat → Int32) (P : Nat) (b : Nat → Nat) (nC nS nM : Nat) (F : eF) (G : Nat → Nat) (H : eF) (M S : eM) : Prop := (Y L xs S ∧ gi S 159 11 = N nC) ∧ gi S 159 15 = N nS ∧ gi S 159 19 = N nM ∧ EqC nC P F M S ∧ EqS nS P G M S ∧ EqM nM P b H M S
/-- and of the class -/
def PA (P nC nS nM p : Nat) (F : eF) (G : Nat → Nat) (H : eF) (M : eM) : Prop := (nC ≤ 8 ∧ nS ≤ 8 ∧ nM ≤ 16) ∧ (gi M P 2 = N nC ∧ gi M P 7 = N nS ∧ gi M P 9 = N nM) ∧ CW nC nC P F M ∧ SW nC nS P G M ∧ MW nC nM P p H M
theorem c_82 {L xs P c s q M l3 r Q k2 k15} (hP : PP P) (hY : Y L xs M) (hr : gr M 9 0 = P) (hc : c < 8) (hs : s < 8) (hq : q ≤ c) (h2 : gi M (P + 2) c = N q - N 1) (hv : r = if l3 = -1 then (if q = 0 then -1 else gi M (P + 56) ((q - 1) * 8 + s)) else l3) (h : k15 9 (N c) (N (s + 1)) (e_si M (P + 56) (c * 8 + s) r)) : w_Reader_readTable_82 9 (N c) (N s) l3 M Q k2 k15 := by
  have h120 : ∀ l, l = r → w_Reader_readTable_120 9 (N c) (N s) l M Q k2 k15 := by
    intro l e
    subst e
    unfold w_Reader_readTable_120
    simp (disch := omega) only [N_lit, yo9 hY, po hY hP, hr, true_and, pr11 hY hP, pa56 hY hP, N_mul, N_add, N_in, N_nat, forall_eq]
    exact ⟨by omega, h⟩
  unfold w_Reader_readTable_82
  simp (disch := omega) only [yo9 hY, po hY hP, hr, true_and, pr3 hY hP, pi2 hY hP, N_in, N_nat, h2]
  refine ⟨by omega, fun e => h120 _ (by rw [hv, if_neg e]), fun e => ?_⟩
  subst e
  rw [if_pos rfl] at hv
  by_cases e0 : q = 0
  · subst e0
    refine ⟨fun _ => h120 _ (by rw [hv, if_pos rfl]), fun z => absurd rfl z⟩
  · rw [if_neg e0] at hv
    have e1 : N q - N 1 = N (q - 1) := N_sub (by omega)
    rw [e1]
    simp (disch := omega) only [N_lit, N_neg', false_imp_iff, true_and, not_false_iff, true_imp_iff, pr11 hY hP, pi56 hY hP, N_mul, N_add, N_in, N_nat]
    exact ⟨by omega, h120 _ hv.symm⟩
abbrev ocT (P : Nat) : Nat → Nat → Prop := fun a _ => a = 9 ∨ a = P + 56
abbrev omQ : Nat → Nat → Prop := fun a j => (a = 159 ∧ (j = 81 ∨ j = 82)) ∨ a = 177
theorem PA.fi {P nC nS nM p F G H M M'} (h : PA P nC nS nM p F G H M) (hP : PP P) (g : FI (ocT P) M M') : PA P nC nS nM p F G H M' := by
  have hg := hP.ge
  obtain ⟨⟨h1, h2, h3⟩, ⟨h4, h5, h6⟩, h7, h8, h9⟩ := h
  exact ⟨⟨h1, h2, h3⟩, ⟨by rw [g.gi (by unfold ocT; omega)]; exact h4, by rw [g.gi (by unfold ocT; omega)]; exact h5, by rw [g.gi (by unfold ocT; omega)]; exact h6⟩, h7.fi g (fun a j _ _ => by unfold ocT; omega), h8.fi h2 g (fun a j _ _ => by unfold ocT; omega), h9.fi h3 g (fun a j _ _ => by unfold ocT; omega)⟩
theorem PB.fi {L xs P b nC nS nM F G H M M' S} (h : PB L xs P b nC nS nM F G H M S) (hP : PP P) (h2 : nS ≤ 8) (h3 : nM ≤ 16) (g : FI (ocT P) M M') : PB L xs P b nC nS nM F G H M' S := by
  have hg := hP.ge
  obtain ⟨a1, a2, a3, a4, a5, a6⟩ := h
  exact ⟨a1, a2, a3, a4.fi g (fun a j _ _ => by unfold ocT; omega), a5.fi h2 g (fun a j _ _ => by unfold ocT; omega), a6.fi h3 g (fun a j _ _ => by unfold ocT; omega)⟩
theorem PB.fs {L xs P b nC nS nM F G H M S S'} (h : PB L xs P b nC nS nM F G H M S) (g : FI omQ S S') : PB L xs P b nC nS nM F G H M S' := by
  obtain ⟨⟨a0, a1⟩, a2, a3, a4, a5, a6⟩ := h
  exact ⟨⟨g.Y (fun a j ha => by unfold omQ; omega) a0, by rw [g.gi (by unfold omQ; omega)]; exact a1⟩, by rw [g.gi (by unfold omQ; omega)]; exact a2, by rw [g.gi (by unfold omQ; omega)]; exact a3, a4.fs g (fun a j _ _ => by unfold omQ; omega), a5.fs g (fun a j _ _ => by unfold omQ; omega), a6.fs g (fun a j _ _ => by unfold omQ; omega)⟩
