/-! ===== pure: reading bytes ===== -/
/-- the reader at p, nothing wrong so far -/
def RO (P p len : Nat) (b : Nat → Nat) (M : eM) : Prop := gr M 9 0 = P ∧ gi M 9 1 = N p ∧ gi M 9 2 = -1 ∧ gi M P 1 = N len ∧ p ≤ len ∧ len ≤ 1500 ∧ (∀ j, j < len → gi M (P + 1) j = N (b j) ∧ b j < 256)
/-- the reader behind the first wrong byte w -/
def RW (P w : Nat) (M : eM) : Prop := gr M 9 0 = P ∧ gi M 9 2 = N w ∧ w ≤ 1500
theorem r_take {L xs M P p len b lo hi Q} (hY : Y L xs M) (hP : PP P) (h : RO P p len b M) (hlo : lo < 1000) (hhi : hi < 1000)
    (h1 : p < len → lo ≤ b p → b p ≤ hi → b p < 256 → Q (N (b p)) (e_si M 9 1 (N (p + 1))))
    (h2 : ¬ (p < len ∧ lo ≤ b p ∧ b p ≤ hi) → Q (N lo) (e_si M 9 2 (N p))) : w_Reader_take 9 (N lo) (N hi) M Q := by
  obtain ⟨r1, r2, r3, r4, r5, r6, r7⟩ := h
  unfold w_Reader_take
  simp (disch := omega) only [N_lit, r1, r2, r3, r4, yo9 hY, po hY hP, true_and, pr0 hY hP, pi1 hY hP, N_nat, N_in, N_lt, N_le, N_add, w_Reader_take_60, forall_eq, not_true, false_imp_iff, and_true, true_imp_iff]
  constructor
  · intro hp
    obtain ⟨q1, q2⟩ := r7 p hp
    simp (disch := omega) only [q1, N_lt, N_le]
    exact ⟨by omega, fun c => h2 (by omega), fun c => ⟨fun d => h1 hp (by omega) d q2, fun d => h2 (by omega)⟩⟩
  · intro hp
    have : p = len := by omega
    subst this
    exact h2 (by omega)
theorem r_takeW {M P w lo hi Q} {L xs} (hY : Y L xs M) (h : RW P w M) (hQ : Q lo M) : w_Reader_take 9 lo hi M Q := by
  obtain ⟨r1, r2, r3⟩ := h
  unfold w_Reader_take
  simp (disch := omega) only [r1, r2, yo9 hY, true_and, N_neg, false_imp_iff, not_false_iff, true_imp_iff]
  exact hQ
