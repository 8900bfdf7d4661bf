/-! ===== pure: frames by cell and place; reading in step ===== -/
abbrev eF : Type := Nat → Nat → Nat
/-- only ints at places of o may have changed -/
def FI (o : Nat → Nat → Prop) (M M' : eM) : Prop := M'.1 = M.1 ∧ M'.2.1 = M.2.1 ∧ M'.2.2.2.1 = M.2.2.2.1 ∧ M'.2.2.2.2 = M.2.2.2.2 ∧ ∀ a j, ¬ o a j → gi M' a j = gi M a j
theorem FI.rf {o : Nat → Nat → Prop} (M : eM) : FI o M M := ⟨rfl, rfl, rfl, rfl, fun _ _ _ => rfl⟩
theorem FI.tr {s t u : Nat → Nat → Prop} {M M' M'' : eM} (h : FI s M M') (g : FI t M' M'') (hs : ∀ a j, s a j → u a j) (ht : ∀ a j, t a j → u a j) : FI u M M'' :=
  ⟨g.1.trans h.1, g.2.1.trans h.2.1, g.2.2.1.trans h.2.2.1, g.2.2.2.1.trans h.2.2.2.1, fun a j ha => (g.2.2.2.2 a j (fun z => ha (ht a j z))).trans (h.2.2.2.2 a j (fun z => ha (hs a j z)))⟩
theorem FI.t2 {u : Nat → Nat → Prop} {M M' M'' : eM} (h : FI u M M') (g : FI u M' M'') : FI u M M'' := FI.tr h g (fun _ _ z => z) (fun _ _ z => z)
theorem FI.up {s u : Nat → Nat → Prop} {M M' : eM} (h : FI s M M') (hs : ∀ a j, s a j → u a j) : FI u M M' := ⟨h.1, h.2.1, h.2.2.1, h.2.2.2.1, fun a j ha => h.2.2.2.2 a j (fun z => ha (hs a j z))⟩
theorem FI.si {o : Nat → Nat → Prop} {M M' : eM} (h : FI o M M') {a j : Nat} {x : Int32} (hs : o a j) : FI o M (e_si M' a j x) := by
  refine ⟨h.1, h.2.1, h.2.2.1, h.2.2.2.1, fun b k hb => ?_⟩
  rw [← h.2.2.2.2 b k hb, gi_si, if_neg]
  rintro ⟨rfl, rfl⟩
  exact hb hs
theorem FI.gi {o : Nat → Nat → Prop} {M M' : eM} (h : FI o M M') {a j : Nat} (hs : ¬ o a j) : gi M' a j = gi M a j := h.2.2.2.2 a j hs
theorem FI.gr {o : Nat → Nat → Prop} {M M' : eM} (h : FI o M M') (a j : Nat) : gr M' a j = gr M a j := congrFun (congrFun h.2.2.2.1 a) j
theorem FI.gl {o : Nat → Nat → Prop} {M M' : eM} (h : FI o M M') (a j : Nat) : gl M' a j = gl M a j := congrFun (congrFun h.2.2.1 a) j
theorem FI.Y {o : Nat → Nat → Prop} {L xs} {M M' : eM} (h : FI o M M') (hs : ∀ a j, a < 8 → ¬ o a j) (hY : Y L xs M) : Y L xs M' := by
  obtain ⟨⟨a1, a2, a3, a4, a5, a6⟩, b, c, d, e, f⟩ := hY
  refine ⟨⟨by rw [h.1]; exact a1, by rw [h.2.1]; exact a2, by rw [h.2.1]; exact a3, by rw [h.2.1]; exact a4, by rw [h.2.1]; exact a5, by rw [h.2.1]; exact a6⟩, fun q hq => ?_, fun j => ?_, fun j => ?_, fun j => ?_, fun j => ?_⟩
  · rw [h.gr]; exact b q hq
  · rw [h.gi (hs 1 j (by decide))]; exact c j
  · rw [h.gi (hs 2 j (by decide))]; exact d j
  · rw [h.gi (hs 3 j (by decide))]; exact e j
  · rw [h.gi (hs 4 j (by decide))]; exact f j
/-- the model's reading at p -/
def MO (p len : Nat) (b : Nat → Nat) (S : eM) : Prop := gi S 159 81 = N p ∧ gi S 159 82 = 0 ∧ gi S 159 4 = N len ∧ p ≤ len ∧ len ≤ 1500 ∧ ∀ j, j < len → gi S 161 j = N (b j) ∧ b j < 256
/-- the model has found a wrong byte at w -/
def MB (w : Nat) (S : eM) : Prop := gi S 159 81 = N w ∧ gi S 159 82 = 1
theorem MO.si1 {p len b S} (h : MO p len b S) (hp : p < len) : MO (p + 1) len b (e_si S 159 81 (N (p + 1))) := by
  obtain ⟨r1, r2, r3, r4, r5, r6⟩ := h
  exact ⟨by simp [gi_si], by simp [gi_si, r2], by simp [gi_si, r3], by omega, r5, fun j hj => by simp [gi_si]; exact r6 j hj⟩
theorem MO.wr {p len b S} (h : MO p len b S) : MB p (e_si S 159 82 1) := ⟨by simp [gi_si, h.1], by simp [gi_si]⟩
theorem MO.fi {o : Nat → Nat → Prop} {p len b S S'} (h : MO p len b S) (g : FI o S S') (h1 : ¬ o 159 81) (h2 : ¬ o 159 82) (h3 : ¬ o 159 4) (h4 : ∀ j, ¬ o 161 j) : MO p len b S' := by
  obtain ⟨r1, r2, r3, r4, r5, r6⟩ := h
  exact ⟨by rw [g.gi h1]; exact r1, by rw [g.gi h2]; exact r2, by rw [g.gi h3]; exact r3, r4, r5, fun j hj => by rw [g.gi (h4 j)]; exact r6 j hj⟩
theorem MB.fi {o : Nat → Nat → Prop} {w S S'} (h : MB w S) (g : FI o S S') (h1 : ¬ o 159 81) (h2 : ¬ o 159 82) : MB w S' :=
  ⟨by rw [g.gi h1]; exact h.1, by rw [g.gi h2]; exact h.2⟩
theorem RO.fi {o : Nat → Nat → Prop} {P p len b M M'} (h : RO P p len b M) (g : FI o M M') (h1 : ¬ o 9 1) (h2 : ¬ o 9 2) (h3 : ¬ o P 1) (h4 : ∀ j, ¬ o (P + 1) j) : RO P p len b M' := by
  obtain ⟨r1, r2, r3, r4, r5, r6, r7⟩ := h
  exact ⟨by rw [g.gr]; exact r1, by rw [g.gi h1]; exact r2, by rw [g.gi h2]; exact r3, by rw [g.gi h3]; exact r4, r5, r6, fun j hj => by rw [g.gi (h4 j)]; exact r7 j hj⟩
theorem RW.fi {o : Nat → Nat → Prop} {P w M M'} (h : RW P w M) (g : FI o M M') (h2 : ¬ o 9 2) : RW P w M' :=
  ⟨by rw [g.gr]; exact h.1, by rw [g.gi h2]; exact h.2.1, h.2.2⟩
theorem m_within {v lo hi : Int32} {M Q} (hQ : Q (if v < lo ∨ hi < v then 0 else 1) M) : w_Mod_within v lo hi M Q := by
  simp only [w_Mod_within, w_Mod_within_14, w_Mod_within_15]
  by_cases c1 : v < lo
  · simp only [c1, true_or, if_true] at hQ; simp [c1, hQ]
  · by_cases c2 : hi < v
    · simp only [c2, or_true, if_true] at hQ; simp [c1, c2, hQ]
    · simp only [c1, c2, or_self, if_false] at hQ; simp [c1, c2, hQ]
theorem m_next {L xs S p len b lo hi Q} (hY : Y L xs S) (h : MO p len b S) (hlo : lo < 1000) (hhi : hi < 1000)
    (h1 : p < len → lo ≤ b p → b p ≤ hi → Q (N (b p)) (e_si S 159 81 (N (p + 1))))
    (h2 : ¬ (p < len ∧ lo ≤ b p ∧ b p ≤ hi) → Q 0 (e_si S 159 82 1)) : w_Mod_next 159 (N lo) (N hi) S Q := by
  obtain ⟨r1, r2, r3, r5, r6, r7⟩ := h
  unfold w_Mod_next
  simp only [yo159 hY, r1, r2, r3, true_and, true_imp_iff, not_true, false_imp_iff, and_true, yr159_3 hY]
  simp (disch := omega) only [N_le, N_nat, yi161 hY, N_in]
  constructor
  · intro c
    unfold w_Mod_next_37
    simp only [yo159 hY, true_and, forall_eq, or_true]
    exact h2 (by omega)
  · intro c
    have hp : p < len := by omega
    obtain ⟨q1, q2⟩ := r7 p hp
    refine ⟨by omega, m_within ?_⟩
    rw [q1]
    simp (disch := omega) only [N_lt]
    by_cases hc : b p < lo ∨ hi < b p
    · rw [if_pos hc]
      refine ⟨fun z => absurd rfl z, fun _ => ?_⟩
      unfold w_Mod_next_37
      simp only [yo159 hY, true_and, forall_eq, or_true]
      exact h2 (by omega)
    · rw [if_neg hc]
      refine ⟨fun _ => ?_, fun z => absurd z (by decide)⟩
      simp only [N_lit, yo159 hY, true_and, forall_eq, ob_si, gr_si, yr159_3 hY, ai_si, yi161 hY, gi_si, and_self, if_true, r1, N_add]
      simp (disch := omega) only [N_sub, N_in, N_nat, show ¬ (161 = 159) by decide, false_and, if_false, Nat.add_sub_cancel, q1]
      exact ⟨by omega, h1 hp (by omega) (by omega)⟩
theorem m_nextB {L xs S w lo hi Q} (hY : Y L xs S) (h : MB w S) (hQ : Q 0 S) : w_Mod_next 159 lo hi S Q := by
  obtain ⟨r1, r2⟩ := h
  unfold w_Mod_next
  simp only [yo159 hY, r2, true_and]
  exact ⟨fun c => absurd c (by decide), fun _ => hQ⟩
theorem m_type {L xs S p len b lo nC x Q} (hY : Y L xs S) (h : MO p len b S) (hlo : (lo = 0 ∧ x = 1) ∨ (lo = 1 ∧ x = 0)) (hn : gi S 159 11 = N nC) (hC : nC ≤ 8)
    (h1 : p < len → vt nC lo (b p) → Q (N (b p)) (e_si S 159 81 (N (p + 1))))
    (h2 : ¬ (p < len ∧ vt nC lo (b p)) → Q 0 (e_si S 159 82 1)) : w_Mod_type 159 x S Q := by
  obtain ⟨r1, r2, r3, r5, r6, r7⟩ := h
  have H69 : ∀ v, p < len → v = N (b p) → vt nC lo (b p) → w_Mod_type_69 159 v S Q := by
    intro v q1 q2 q3
    subst q2
    unfold w_Mod_type_69 w_Mod_type_74
    simp only [N_lit, yo159 hY, true_and, forall_eq, r1, N_add]
    exact ⟨fun _ => h1 q1 q3, fun z => absurd z (by decide)⟩
  have H73 : ∀ v, ¬ (p < len ∧ vt nC lo (b p)) → w_Mod_type_73 159 v S Q := by
    intro v q
    unfold w_Mod_type_73 w_Mod_type_74
    simp only [yo159 hY, true_and, forall_eq, or_true, not_true, false_imp_iff, true_imp_iff]
    exact h2 q
  unfold w_Mod_type
  simp only [yo159 hY, r1, r2, r3, true_and, true_imp_iff, not_true, false_imp_iff, and_true, yr159_3 hY]
  simp (disch := omega) only [N_le, N_nat, yi161 hY, N_in]
  constructor
  · intro c
    have hq : ¬ (p < len ∧ vt nC lo (b p)) := by omega
    unfold w_Mod_type_33 w_Mod_type_61
    refine ⟨fun z => absurd z (by decide), fun _ => ⟨fun z => absurd z (by decide), fun _ => ⟨fun _ => ⟨fun _ => H73 _ hq, fun _ => ⟨fun _ => H73 _ hq, fun z => absurd z (by decide)⟩⟩, fun z => absurd (by decide) z⟩⟩⟩
  · intro c
    have hp : p < len := by omega
    obtain ⟨q1, q2⟩ := r7 p hp
    refine ⟨by omega, ?_⟩
    rw [q1]
    unfold w_Mod_type_33 w_Mod_type_61
    simp only [yo159 hY, true_and, hn]
    simp (disch := omega) only [N_lit, N_eq, N_lt, N_add]
    have hx : x = N (1 - lo) := by rcases hlo with ⟨rfl, rfl⟩ | ⟨rfl, rfl⟩ <;> rfl
    have hlo' : lo = 0 ∨ lo = 1 := by omega
    subst hx
    simp (disch := omega) only [N_eq]
    refine ⟨fun c1 => H69 _ hp rfl (by unfold vt; omega), fun c1 => ⟨fun c2 => H69 _ hp rfl (by unfold vt; omega), fun c2 => ⟨fun c3 => ⟨fun c4 => H73 _ (by unfold vt; omega), fun c4 => ⟨fun c5 => H73 _ (by unfold vt; omega), fun c5 => H69 _ hp rfl (by unfold vt; omega)⟩⟩, fun c3 => ⟨fun c4 => H69 _ hp rfl (by unfold vt; omega), fun c4 => ⟨fun c5 => H73 _ (by unfold vt; omega), fun c5 => ⟨fun c6 => H73 _ (by unfold vt; omega), fun c6 => H69 _ hp rfl (by unfold vt; omega)⟩⟩⟩⟩⟩⟩
theorem m_typeB {L xs S w x Q} (hY : Y L xs S) (h : MB w S) (hQ : Q 0 S) : w_Mod_type 159 x S Q := by
  obtain ⟨r1, r2⟩ := h
  unfold w_Mod_type
  simp only [yo159 hY, r2, true_and]
  exact ⟨fun c => absurd c (by decide), fun _ => hQ⟩
