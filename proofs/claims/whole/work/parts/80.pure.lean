/-! ===== pure: states join, and a measure ===== -/
def sumN (f : Nat → Nat) : Nat → Nat
  | 0 => 0
  | n + 1 => sumN f n + f n
theorem sumN_mono {f g : Nat → Nat} : ∀ n, (∀ i, i < n → g i ≤ f i) → sumN g n ≤ sumN f n
  | 0, _ => by unfold sumN; omega
  | n + 1, h => by
    unfold sumN
    have h1 := sumN_mono n (fun i hi => h i (by omega))
    have h2 := h n (by omega)
    omega
theorem sumN_lt {f g : Nat → Nat} {t : Nat} : ∀ n, t < n → (∀ i, i < n → g i ≤ f i) → g t < f t → sumN g n < sumN f n
  | 0, h, _, _ => by omega
  | n + 1, ht, h, h' => by
    unfold sumN
    have h2 := h n (by omega)
    by_cases c : t = n
    · have h1 := sumN_mono (f := f) (g := g) n (fun i hi => h i (by omega))
      subst c
      omega
    · have h1 := sumN_lt n (by omega) (fun i hi => h i (by omega)) h'
      omega
theorem sumN_le {f : Nat → Nat} {c : Nat} : ∀ n, (∀ i, i < n → f i ≤ c) → sumN f n ≤ n * c
  | 0, _ => by unfold sumN; omega
  | n + 1, h => by
    unfold sumN
    have h1 := sumN_le n (fun i hi => h i (by omega))
    have h2 := h n (by omega)
    rw [Nat.succ_mul]; omega
def muS (s : eS) : Nat := if s.1 = 0 then 300 else if s.1 = 1 then 0 else 1 + sumN (fun i => 12 - rkK (s.2 i)) 16
theorem muS_le (s : eS) : muS s ≤ 300 ∧ (s.1 ≠ 0 → muS s < 300) ∧ (2 ≤ s.1 → 1 ≤ muS s) := by
  unfold muS
  by_cases h0 : s.1 = 0
  · rw [if_pos h0]; exact ⟨by omega, fun h => absurd h0 h, fun h => by omega⟩
  · rw [if_neg h0]
    by_cases h1 : s.1 = 1
    · rw [if_pos h1]; exact ⟨by omega, fun h => by omega, fun h => by omega⟩
    · rw [if_neg h1]
      have := sumN_le (f := fun i => 12 - rkK (s.2 i)) (c := 12) 16 (fun i _ => by show 12 - _ ≤ 12; omega)
      exact ⟨by omega, fun h => by omega, fun h => by omega⟩
def jS (D : eF) (a o : eS) : eS := if a.1 = 0 then o else if a.1 = 1 then a else if a.1 = o.1 then (a.1, fun i => if i < 16 then jn D (a.2 i) (o.2 i) else 0) else (1, fun _ => 0)
theorem wf1 {D} {s : eS} (h : s.1 = 1) : wfS D s := fun z => by omega
theorem rkK_le {nC k : Nat} (hC : nC ≤ 8) (h : vk nC k) : rkK k ≤ 12 := by
  unfold vk at h
  unfold rkK
  by_cases c0 : k = 0
  · rw [if_pos c0]; omega
  rw [if_neg c0]
  by_cases c1 : k = 1
  · rw [if_pos c1]; omega
  rw [if_neg c1]
  by_cases c2 : k = 2
  · rw [if_pos c2]; omega
  rw [if_neg c2]
  by_cases c3 : k = 3
  · rw [if_pos c3]; omega
  rw [if_neg c3]
  by_cases c4 : k = 15
  · rw [if_pos c4]; omega
  rw [if_neg c4]; omega
theorem jS_ok {D} (hD : KD D) {a o : eS} (ha : wfS D a) (ho : wfS D o) (h0 : o.1 ≠ 0) : wfS D (jS D a o) ∧ (jS D a o).1 ≠ 0 ∧ leS D a (jS D a o) ∧ leS D o (jS D a o) ∧ (∀ u, wfS D u → leS D a u → leS D o u → leS D (jS D a o) u) := by
  have hC := hD.1.1
  unfold jS
  by_cases a0 : a.1 = 0
  · rw [if_pos a0]
    exact ⟨ho, h0, Or.inl a0, leS_rf o, fun u _ _ h => h⟩
  rw [if_neg a0]
  by_cases a1 : a.1 = 1
  · rw [if_pos a1]
    exact ⟨ha, a0, leS_rf a, Or.inr (Or.inl a1), fun u _ h _ => h⟩
  rw [if_neg a1]
  by_cases e : a.1 = o.1
  · rw [if_pos e]
    obtain ⟨x1, x2, x3⟩ := ha (by omega)
    obtain ⟨y1, y2, y3⟩ := ho (by omega)
    have hj : ∀ i, i < 16 → (if i < 16 then jn D (a.2 i) (o.2 i) else 0) = jn D (a.2 i) (o.2 i) := fun i hi => if_pos hi
    refine ⟨fun _ => ⟨x1, fun i hi => ?_, fun i h1 h2 => ?_⟩, a0, Or.inr (Or.inr ⟨by omega, rfl, fun i hi => ?_⟩), Or.inr (Or.inr ⟨by omega, e.symm, fun i hi => ?_⟩), fun u hu h1 h2 => ?_⟩
    · show vk _ (if _ then _ else _); rw [hj i hi]; exact jn_vk hC hD.cl (x2 i hi) (y2 i hi)
    · show (if _ then _ else _) = 0
      have h1' : 8 + (a.1 - 2) ≤ i := h1
      rw [hj i h2, x3 i h1' h2, y3 i (by omega) h2, jn_rf]
    · show leK _ _ (if _ then _ else _); rw [hj i hi]; exact (jn_ub hC hD.cl (x2 i hi) (y2 i hi)).1
    · show leK _ _ (if _ then _ else _); rw [hj i hi]; exact (jn_ub hC hD.cl (x2 i hi) (y2 i hi)).2
    · rcases h1 with z | z | ⟨p1, p2, p3⟩
      · exact absurd z a0
      · exact Or.inr (Or.inl z)
      · rcases h2 with z | z | ⟨q1, q2, q3⟩
        · exact absurd z h0
        · exact Or.inr (Or.inl z)
        · refine Or.inr (Or.inr ⟨p1, p2, fun i hi => ?_⟩)
          show leK _ (if _ then _ else _) _
          rw [hj i hi]
          exact jn_lub hC hD.cl (x2 i hi) (y2 i hi) ((hu (by omega)).2.1 i hi) (p3 i hi) (q3 i hi)
  · rw [if_neg e]
    refine ⟨wf1 rfl, by decide, Or.inr (Or.inl rfl), Or.inr (Or.inl rfl), fun u hu h1 h2 => ?_⟩
    rcases h1 with z | z | ⟨p1, p2, p3⟩
    · exact absurd z a0
    · exact Or.inr (Or.inl z)
    · rcases h2 with z | z | ⟨q1, q2, q3⟩
      · exact absurd z h0
      · exact Or.inr (Or.inl z)
      · omega
/-- a state that goes up goes down in the measure -/
theorem muS_lt {D} (hD : KD D) {a b : eS} (ha : wfS D a) (hb : wfS D b) (h : leS D a b) (hn : ¬ leS D b a) : muS b < muS a := by
  have hC := hD.1.1
  by_cases b0 : b.1 = 0
  · exact absurd (Or.inl b0) hn
  by_cases a0 : a.1 = 0
  · have := (muS_le b).2.1 b0
    unfold muS at this ⊢
    rw [if_pos a0]
    exact this
  rcases h with z | z | ⟨p1, p2, p3⟩
  · exact absurd z a0
  · have a1 : a.1 ≠ 1 := fun e => hn (Or.inr (Or.inl e))
    have h1 := (muS_le a).2.2 (by omega)
    have : muS b = 0 := by unfold muS; rw [if_neg b0, if_pos z]
    omega
  · unfold muS
    rw [if_neg a0, if_neg b0, if_neg (by omega), if_neg (by omega)]
    have va := (ha p1).2.1
    have vb := (hb (by omega)).2.1
    have hx : ∃ i, i < 16 ∧ a.2 i ≠ b.2 i := by
      by_cases c : ∃ i, i < 16 ∧ a.2 i ≠ b.2 i
      · exact c
      · exfalso
        apply hn
        refine Or.inr (Or.inr ⟨by omega, by omega, fun i hi => ?_⟩)
        by_cases e : a.2 i = b.2 i
        · rw [e]; exact leK_rf _
        · exact absurd ⟨i, hi, e⟩ c
    obtain ⟨t, t1, t2⟩ := hx
    have key : ∀ i, i < 16 → rkK (a.2 i) ≤ rkK (b.2 i) := fun i hi => by
      by_cases e : a.2 i = b.2 i
      · rw [e]; omega
      · exact Nat.le_of_lt (rkK_lt hC hD.cl (va i hi) (vb i hi) (p3 i hi) e)
    have := sumN_lt (f := fun i => 12 - rkK (a.2 i)) (g := fun i => 12 - rkK (b.2 i)) 16 t1 (fun i hi => by have := key i hi; show 12 - _ ≤ 12 - _; omega) (by
      show 12 - _ < 12 - _
      have h1 := rkK_lt hC hD.cl (va t t1) (vb t t1) (p3 t t1) t2
      have h2 := rkK_le hC (vb t t1)
      omega)
    omega
def upT (T : Nat → eS) (t : Nat) (s : eS) : Nat → eS := fun j => if j = t then s else T j
theorem upT_s {T : Nat → eS} {t : Nat} {s : eS} : upT T t s t = s := if_pos rfl
theorem upT_d {T : Nat → eS} {t j : Nat} {s : eS} (h : j ≠ t) : upT T t s j = T j := if_neg h
def muT (D : eF) (m : Nat) (T : Nat → eS) : Nat := sumN (fun j => muS (T j)) (D 174 m)
theorem muT_lt {D m} {T : Nat → eS} {t : Nat} {s : eS} (ht : t < D 174 m) (h : muS s < muS (T t)) : muT D m (upT T t s) < muT D m T := by
  unfold muT
  refine sumN_lt _ ht (fun i _ => ?_) ?_
  · show muS _ ≤ muS _
    by_cases e : i = t
    · subst e; rw [upT_s]; omega
    · rw [upT_d e]; omega
  · show muS _ < muS _
    rw [upT_s]; exact h
theorem muT_le {D m} {T : Nat → eS} (h : D 174 m ≤ 120) : muT D m T ≤ 36000 := by
  have := sumN_le (f := fun j => muS (T j)) (c := 300) (D 174 m) (fun i _ => (muS_le _).1)
  have h2 : D 174 m * 300 ≤ 120 * 300 := Nat.mul_le_mul_right _ h
  unfold muT; omega
