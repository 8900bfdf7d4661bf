/-! ===== what a call of the class leaves of the model ===== -/
def y_J (L : Nat) (xs : Nat → Int32) (t : Int32) (M : eM) : Prop := 292 ≤ M.1 ∧ M.2.1 1 = (20, L) ∧ (∀ j, gi M 1 j = xs j) ∧ (M.2.1 241).1 = 12 ∧ M.2.1 242 = (20, 1500) ∧ M.2.1 263 = (20, 100) ∧ gr M 241 2 = 242 ∧ gr M 241 40 = 263 ∧ gi M 241 0 = t ∧ ∀ j, j ≠ 0 → y_int 241 j = true → gi M 241 j = 0
/-- what a call of the model leaves -/
def y_K (L : Nat) (t : Int32) (M : eM) : Prop := 292 ≤ M.1 ∧ M.2.1 1 = (20, L) ∧ (M.2.1 241).1 = 12 ∧ gi M 241 0 = t
section JJ
variable {L : Nat} {xs : Nat → Int32} {t : Int32} {M : eM}
theorem y_J.of (h : y_I L xs 292 287 M) : y_J L xs 0 M := by
  refine ⟨Nat.le_of_eq h.1.symm, h.2.2.2.2.1, h.2.2.2.2.2.1, ?_, ?_, ?_, ?_, ?_, ?_, ?_⟩
  · rw [h.2.1 241 (by decide) (by decide)]; decide +kernel
  · rw [h.2.1 242 (by decide) (by decide)]; decide +kernel
  · rw [h.2.1 263 (by decide) (by decide)]; decide +kernel
  · exact (h.2.2.1 238 (241, 2, 242) (by decide) (by decide +kernel)).2
  · exact (h.2.2.1 259 (241, 40, 263) (by decide) (by decide +kernel)).2
  · exact h.gi 241 0 (by decide) (by decide +kernel)
  · intro j _ hj
    exact h.gi 241 j (by decide) hj
theorem y_J.si (h : y_J L xs t M) {a j : Nat} {x : Int32} (h1 : a ≠ 1) (h2 : a ≠ 241) : y_J L xs t (e_si M a j x) := by
  obtain ⟨a1, a2, a3, a4, a5, a6, a7, a8, a9, a10⟩ := h
  refine ⟨a1, a2, ?_, a4, a5, a6, a7, a8, ?_, ?_⟩
  · intro k
    rw [gi_si, if_neg (fun c => h1 c.1.symm)]
    exact a3 k
  · rw [gi_si, if_neg (fun c => h2 c.1.symm)]
    exact a9
  · intro k hk hi
    rw [gi_si, if_neg (fun c => h2 c.1.symm)]
    exact a10 k hk hi
theorem y_J.sr (h : y_J L xs t M) {a j v : Nat} (h2 : a ≠ 241) : y_J L xs t (e_sr M a j v) := by
  obtain ⟨a1, a2, a3, a4, a5, a6, a7, a8, a9, a10⟩ := h
  refine ⟨a1, a2, a3, a4, a5, a6, ?_, ?_, a9, a10⟩
  · rw [gr_sr, if_neg (fun c => h2 c.1.symm)]
    exact a7
  · rw [gr_sr, if_neg (fun c => h2 c.1.symm)]
    exact a8
theorem y_J.gap (h : y_J L xs t M) (g : Nat) : y_J L xs t (e_gap M g) := by
  obtain ⟨a1, a2, a3, a4, a5, a6, a7, a8, a9, a10⟩ := h
  refine ⟨Nat.le_trans a1 (Nat.le_add_right _ _), ?_, a3, ?_, ?_, ?_, a7, a8, a9, a10⟩
  · show (if 1 < M.1 then M.2.1 1 else (99, 0)) = _
    rw [if_pos (by omega)]
    exact a2
  · show (if 241 < M.1 then M.2.1 241 else (99, 0)).1 = _
    rw [if_pos (by omega)]
    exact a4
  · show (if 242 < M.1 then M.2.1 242 else (99, 0)) = _
    rw [if_pos (by omega)]
    exact a5
  · show (if 263 < M.1 then M.2.1 263 else (99, 0)) = _
    rw [if_pos (by omega)]
    exact a6
theorem y_J.th (h : y_J L xs t M) (x : Int32) : y_J L xs x (e_si M 241 0 x) := by
  obtain ⟨a1, a2, a3, a4, a5, a6, a7, a8, a9, a10⟩ := h
  refine ⟨a1, a2, ?_, a4, a5, a6, a7, a8, ?_, ?_⟩
  · intro k
    rw [gi_si, if_neg (by omega)]
    exact a3 k
  · rw [gi_si, if_pos ⟨rfl, rfl⟩]
  · intro k hk hi
    rw [gi_si, if_neg (by omega)]
    exact a10 k hk hi
theorem y_J.mo (h : y_J L xs t M) {j : Nat} {x : Int32} (h0 : j ≠ 0) (hi : y_int 241 j = false) : y_J L xs t (e_si M 241 j x) := by
  obtain ⟨a1, a2, a3, a4, a5, a6, a7, a8, a9, a10⟩ := h
  refine ⟨a1, a2, ?_, a4, a5, a6, a7, a8, ?_, ?_⟩
  · intro k
    rw [gi_si, if_neg (by omega)]
    exact a3 k
  · rw [gi_si, if_neg (by omega)]
    exact a9
  · intro k hk hik
    rw [gi_si]
    by_cases c : 241 = 241 ∧ k = j
    · rw [c.2, hi] at hik
      cases hik
    · rw [if_neg c]
      exact a10 k hk hik
theorem y_J.ob (h : y_J L xs t M) : e_ob M 241 12 := ⟨by decide, by have := h.1; omega, h.2.2.2.1⟩
theorem y_J.gi (h : y_J L xs t M) (j : Nat) (h0 : j ≠ 0) (hi : y_int 241 j = true) : gi M 241 j = 0 := h.2.2.2.2.2.2.2.2.2 j h0 hi
theorem y_J.k (h : y_J L xs t M) : y_K L t M := ⟨h.1, h.2.1, h.2.2.2.1, h.2.2.2.2.2.2.2.2.1⟩
theorem y_K.si (h : y_K L t M) {a j : Nat} {x : Int32} (h1 : ¬ (a = 241 ∧ j = 0)) : y_K L t (e_si M a j x) := by
  obtain ⟨a1, a2, a3, a4⟩ := h
  refine ⟨a1, a2, a3, ?_⟩
  rw [gi_si, if_neg (fun c => h1 ⟨c.1.symm, c.2.symm⟩)]
  exact a4
theorem y_K.th (h : y_K L t M) (x : Int32) : y_K L x (e_si M 241 0 x) := by
  obtain ⟨a1, a2, a3, a4⟩ := h
  refine ⟨a1, a2, a3, ?_⟩
  rw [gi_si, if_pos ⟨rfl, rfl⟩]
theorem y_K.ob (h : y_K L t M) : e_ob M 241 12 := ⟨by decide, by have := h.1; omega, h.2.2.1⟩
end JJ
/-! ===== the model's calls, fresh ===== -/
section MOD
variable {L : Nat} {xs : Nat → Int32} {t : Int32} {M : eM} {Q : Int32 → eM → Prop}
theorem m_within (x lo hi : Int32) (h0 : (x < lo ∨ hi < x) → Q 0 M) (h1 : ¬ x < lo → ¬ hi < x → Q 1 M) : w_Mod_within x lo hi M Q := by
  unfold w_Mod_within
  exact ⟨fun c => ⟨Or.inl rfl, h0 (Or.inl c)⟩, fun c => ⟨fun d => ⟨Or.inl rfl, h0 (Or.inr d)⟩, fun d => ⟨Or.inr rfl, h1 c d⟩⟩⟩
theorem m_raise (h : y_K L t M) (x : Int32) (hQ : ∀ M', y_K L x M' → Q 0 M') : w_Mod_raise 241 x M Q := by
  unfold w_Mod_raise
  exact ⟨h.ob, fun M1 e => by subst e; exact hQ _ (h.th x)⟩
theorem m_thrown (h : y_K L t M) (hQ : Q t M) : w_Mod_thrown 241 M Q := by
  unfold w_Mod_thrown
  rw [h.2.2.2]
  exact ⟨h.ob, hQ⟩
theorem m_fault (h : y_J L xs t M) (x : Int32) (hQ : ∀ M', y_K L 0 M' → Q (if x = 0 then 0 else if x = 1 then 0 else if x = 2 then 0 else -1) M') : w_Mod_fault 241 x M Q := by
  unfold w_Mod_fault
  refine ⟨h.ob, fun M1 e => ?_⟩
  have h1 : y_J L xs 0 M1 := by subst e; exact h.th 0
  have hq := hQ M1 h1.k
  rw [h1.gi 8 (by decide) (by decide), h1.gi 9 (by decide) (by decide), h1.gi 10 (by decide) (by decide)]
  unfold w_Mod_fault_41
  refine ⟨fun c => ⟨fun c1 => ⟨fun c2 => ?_, fun c2 => ⟨h1.ob, ?_⟩⟩, fun c1 => ⟨h1.ob, ?_⟩⟩, fun c => ⟨h1.ob, ?_⟩⟩
  · rw [if_neg c, if_neg c1, if_neg c2] at hq; exact hq
  · rw [if_neg c, if_neg c1, if_pos c2] at hq; exact hq
  · rw [if_neg c, if_pos c1] at hq; exact hq
  · rw [if_pos c] at hq; exact hq
theorem m_kind (h : y_J L xs t M) (x y z : Int32) (hQ : ∀ M', y_K L 0 M' → Q (-1) M') : w_Mod_kind 241 x y z M Q := by
  unfold w_Mod_kind
  refine ⟨h.ob, fun M1 e => ?_⟩
  have h1 : y_J L xs 0 M1 := by subst e; exact h.th 0
  rw [h1.gi 7 (by decide) (by decide)]
  exact ⟨h1.ob, fun _ => hQ M1 h1.k, fun c => absurd rfl c⟩
theorem m_start (h : y_J L xs t M) (x y z u : Int32) (hQ : ∀ M', y_K L 0 M' → Q 0 M') : w_Mod_start 241 x y z u M Q := by
  unfold w_Mod_start
  refine ⟨h.ob, fun M1 e => ?_⟩
  have h1 : y_J L xs 0 M1 := by subst e; exact h.th 0
  rw [h1.gi 7 (by decide) (by decide)]
  exact ⟨h1.ob, fun c => absurd rfl c, fun _ => ⟨Or.inl rfl, hQ M1 h1.k⟩⟩
theorem m_state (h : y_J L xs t M) (hQ : ∀ M', y_K L 0 M' → Q 0 M') : w_Mod_state 241 M Q := by
  unfold w_Mod_state
  refine ⟨h.ob, fun M1 e => ?_⟩
  have h1 : y_J L xs 0 M1 := by subst e; exact h.th 0
  rw [h1.gi 41 (by decide) (by decide)]
  exact ⟨h1.ob, hQ M1 h1.k⟩
theorem m_result (h : y_J L xs t M) (x : Int32) (hQ : ∀ M', y_K L 0 M' → Q (if x = 0 then 0 else if x = 1 then 0 else -1) M') : w_Mod_result 241 x M Q := by
  unfold w_Mod_result
  refine ⟨h.ob, fun M1 e => ?_⟩
  have h1 : y_J L xs 0 M1 := by subst e; exact h.th 0
  have hq := hQ M1 h1.k
  have h16 : Q 0 M1 → w_Mod_result_16 241 x M1 Q := by
    intro q
    unfold w_Mod_result_16
    rw [h1.gi 41 (by decide) (by decide)]
    exact ⟨h1.ob, fun c => absurd c (by decide), fun _ => ⟨h1.ob, fun c => absurd c (by decide), fun _ => q⟩⟩
  refine ⟨fun c => h16 ?_, fun c => ⟨fun c1 => h16 ?_, fun c1 => ?_⟩⟩
  · rw [if_pos c] at hq; exact hq
  · rw [if_neg c, if_pos c1] at hq; exact hq
  · rw [if_neg c, if_neg c1] at hq; exact hq
theorem m_output (h : y_J L xs t M) (x : Int32) (hQ : ∀ M', y_K L 1 M' → Q 0 M') : w_Mod_output 241 x M Q := by
  unfold w_Mod_output
  rw [h.gi 41 (by decide) (by decide)]
  refine ⟨h.ob, fun _ => ?_, fun c => absurd rfl c⟩
  unfold w_Mod_output_31 w_Mod_output_32
  refine ⟨h.ob, fun M1 e => ?_⟩
  have h1 : y_J L xs 1 M1 := by subst e; exact h.th 1
  rw [show gi M1 241 0 = 1 from h1.k.2.2.2]
  exact ⟨h1.ob, fun _ => hQ M1 h1.k, fun c => absurd c (by decide)⟩
theorem m_frameOf (h : y_J L xs t M) (x : Int32) (hQ : Q (-1) M) : w_Mod_frameOf 241 x M Q := by
  unfold w_Mod_frameOf
  rw [h.gi 41 (by decide) (by decide)]
  exact ⟨h.ob, fun _ => hQ, fun c => absurd rfl c⟩
theorem m_frame (h : y_J L xs t M) (x y : Int32) (hQ : ∀ M', y_K L 0 M' → Q (-1) M') : w_Mod_frame 241 x y M Q := by
  unfold w_Mod_frame
  refine ⟨h.ob, fun M1 e => ?_⟩
  have h1 : y_J L xs 0 M1 := by subst e; exact h.th 0
  exact ⟨h1.ob, m_frameOf h1 x ⟨fun c => absurd rfl c, fun _ => hQ M1 h1.k⟩⟩
theorem m_find {P : eM → Prop} (h : y_J L xs t M) (x y : Int32) (hQ : P (e_si M 241 90 0)) : w_Mod_find 241 x y M P := by
  unfold w_Mod_find
  exact ⟨h.ob, m_frameOf h x ⟨h.ob, fun M1 e => by subst e; exact ⟨fun c => absurd rfl c, fun _ => hQ⟩⟩⟩
theorem m_local (h : y_J L xs t M) (x y : Int32) (hQ : ∀ M', y_K L 1 M' → Q 0 M') : w_Mod_local 241 x y M Q := by
  unfold w_Mod_local
  refine ⟨h.ob, m_find h x y ?_⟩
  have h1 : y_K L t (e_si M 241 90 0) := h.k.si (by decide)
  have h90 : gi (e_si M 241 90 0) 241 90 = 0 := by rw [gi_si, if_pos ⟨rfl, rfl⟩]
  rw [h90]
  refine ⟨h1.ob, fun c => absurd rfl c, fun _ => ?_⟩
  unfold w_Mod_local_19
  refine ⟨h1.ob, fun M2 e => ?_⟩
  have h2 : y_K L 1 M2 := by subst e; exact h1.th 1
  rw [h2.2.2.2]
  exact ⟨h2.ob, fun _ => hQ M2 h2, fun c => absurd c (by decide)⟩
theorem m_part (h : y_J L xs t M) (x y z : Int32) (hQ : ∀ M', y_K L 1 M' → Q 0 M') : w_Mod_part 241 x y z M Q := by
  unfold w_Mod_part
  refine ⟨h.ob, m_find h x y ?_⟩
  have h1 : y_K L t (e_si M 241 90 0) := h.k.si (by decide)
  refine ⟨h1.ob, fun M2 e => ?_⟩
  have h2 : y_K L 1 M2 := by subst e; exact h1.th 1
  have h90 : gi M2 241 90 = 0 := by subst e; rw [gi_si, if_neg (by decide), gi_si, if_pos ⟨rfl, rfl⟩]
  rw [h90]
  refine ⟨h2.ob, ?_⟩
  unfold w_Mod_isRef w_Mod_isRef_16
  exact ⟨fun c => absurd c (by decide), fun _ => ⟨fun _ => ⟨Or.inl rfl, fun _ => hQ M2 h2, fun c => absurd rfl c⟩, fun c => absurd (by decide) c⟩⟩
theorem m_isMethod (h : y_J L xs t M) (x : Int32) (hQ : Q 0 M) : w_Mod_isMethod 241 x M Q := by
  unfold w_Mod_isMethod
  rw [h.gi 7 (by decide) (by decide)]
  exact ⟨h.ob, fun _ => ⟨Or.inl rfl, hQ⟩, fun c => absurd rfl c⟩
theorem m_method (h : y_J L xs t M) (x y : Int32) (hQ : ∀ M', y_K L 0 M' → Q (-1) M') : w_Mod_method 241 x y M Q := by
  unfold w_Mod_method
  refine ⟨h.ob, fun M1 e => ?_⟩
  have h1 : y_J L xs 0 M1 := by subst e; exact h.th 0
  exact ⟨h1.ob, m_isMethod h1 x ⟨fun _ => hQ M1 h1.k, fun c => absurd rfl c⟩⟩
theorem m_inlined (h : y_J L xs t M) (x y z : Int32) (hQ : ∀ M', y_K L 0 M' → Q (-1) M') : w_Mod_inlined 241 x y z M Q := by
  unfold w_Mod_inlined
  refine ⟨h.ob, fun M1 e => ?_⟩
  have h1 : y_J L xs 0 M1 := by subst e; exact h.th 0
  exact ⟨h1.ob, m_isMethod h1 x ⟨fun _ => hQ M1 h1.k, fun c => absurd rfl c⟩⟩
theorem m_profile (h : y_J L xs t M) (x y z : Int32) (hQ : ∀ M', y_K L 0 M' → Q (-1) M') : w_Mod_profile 241 x y z M Q := by
  unfold w_Mod_profile
  refine ⟨h.ob, fun M1 e => ?_⟩
  have h1 : y_J L xs 0 M1 := by subst e; exact h.th 0
  exact ⟨h1.ob, m_isMethod h1 x ⟨fun _ => hQ M1 h1.k, fun c => absurd rfl c⟩⟩
theorem m_log (h : y_J L xs t M) (x y : Int32) (hQ : ∀ M', y_K L 0 M' → Q (-1) M') : w_Mod_log 241 x y M Q := by
  unfold w_Mod_log
  refine ⟨h.ob, fun M1 e => ?_⟩
  have h1 : y_J L xs 0 M1 := by subst e; exact h.th 0
  rw [h1.gi 41 (by decide) (by decide)]
  exact ⟨h1.ob, fun _ => hQ M1 h1.k, fun c => absurd rfl c⟩
theorem m_total (h : y_J L xs t M) (x : Int32) (hQ : ∀ M', y_K L 0 M' → Q (v_total x) M') : w_Mod_total 241 x M Q := by
  unfold w_Mod_total
  refine ⟨h.ob, fun M1 e => ?_⟩
  have h1 : y_J L xs 0 M1 := by subst e; exact h.th 0
  have hq := hQ M1 h1.k
  rw [h1.gi 41 (by decide) (by decide)]
  refine ⟨h1.ob, fun _ => ?_, fun c => absurd rfl c⟩
  unfold w_Mod_total_17
  rw [h1.gi 45 (by decide) (by decide), h1.gi 46 (by decide) (by decide), h1.gi 39 (by decide) (by decide)]
  have hz : (x = 0 ∨ x = 1 ∨ x = 2 ∨ x = 3 ∨ x = 4 ∨ x = 5 ∨ x = 6 ∨ x = 7 ∨ x = 8 ∨ x = 9) → Q 0 M1 := fun hx => by rw [v_total0 hx] at hq; exact hq
  have o1 := h1.ob
  refine ⟨fun c => ⟨fun _ => hz (by simp [c]), fun d => absurd rfl d⟩, fun c0 => ⟨fun c => ⟨o1, hz (by simp [c])⟩, fun c1 => ⟨fun c => ⟨fun _ => hz (by simp [c]), fun d => absurd rfl d⟩, fun c2 => ⟨fun c => ⟨fun _ => hz (by simp [c]), fun d => absurd rfl d⟩, fun c3 => ⟨fun c => ⟨fun _ => hz (by simp [c]), fun d => absurd rfl d⟩, fun c4 => ⟨fun c => ⟨fun _ => hz (by simp [c]), fun d => absurd rfl d⟩, fun c5 => ⟨fun c => ⟨fun _ => hz (by simp [c]), fun d => absurd rfl d⟩, fun c6 => ⟨fun c => ⟨o1, hz (by simp [c])⟩, fun c7 => ⟨fun c => ⟨o1, hz (by simp [c])⟩, fun c8 => ⟨fun c => ⟨fun _ => hz (by simp [c]), fun d => absurd rfl d⟩, fun c9 => ?_⟩⟩⟩⟩⟩⟩⟩⟩⟩⟩
  rw [v_total1 c0 c1 c2 c3 c4 c5 c6 c7 c8 c9] at hq
  exact hq
end MOD
