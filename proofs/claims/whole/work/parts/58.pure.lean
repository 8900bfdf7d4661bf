/-! ===== pure: below and suiting ===== -/
theorem N_div {a b : Nat} (ha : a < 2147483648) (hb : b < 2147483648) : N a / N b = N (a / b) := (Int32.ofNat_div ha hb).symm
theorem least {p : Nat → Prop} (h : ∃ i, p i) : ∃ i, p i ∧ ∀ i', i' < i → ¬ p i' := by
  obtain ⟨i, hi⟩ := h
  induction i using Nat.strongRecOn with
  | _ i ih =>
    by_cases c : ∃ i', i' < i ∧ p i'
    · obtain ⟨i', h1, h2⟩ := c
      exact ih i' h1 h2
    · exact ⟨i, hi, fun i' h1 h2 => c ⟨i', h1, h2⟩⟩
def ClF (nC : Nat) (F : eF) : Prop := ∀ c, c < nC → F 163 c ≤ c ∧ F 4 c < 256 ∧ F 4 c = 2 ^ c ||| (if F 163 c = 0 then 0 else F 4 (F 163 c - 1)) ∧ F 164 c ≤ 8
theorem CW.cl {nC k P F M} (h : CW nC k P F M) : ClF k F := fun c hc => (h c hc).2.2.2.1
theorem ClF.bit {nC F} (h : ClF nC F) {c : Nat} (hc : c < nC) (d : Nat) : (F 4 c).testBit d = (decide (c = d) || (decide (F 163 c ≠ 0) && (F 4 (F 163 c - 1)).testBit d)) := by
  obtain ⟨h1, h2, h3, h4⟩ := h c hc
  rw [h3, Nat.testBit_or, Nat.testBit_two_pow]
  by_cases e : F 163 c = 0
  · simp [e]
  · simp [e]
theorem N_bit0 : ∀ m, m < 256 → ∀ d, d < 8 → ((((N m >>> (N d &&& N 31)) &&& N 1) = N 0) ↔ m.testBit d = false) := by decide +kernel
theorem c_isOrBelow {L xs P M c d Q} {F : eF} (hP : PP P) (hY : Y L xs M) (hc : c < 8) (hd : d < 8) (hm : gi M (P + 3) c = N (F 4 c)) (hl : F 4 c < 256) (hQ : Q (if (F 4 c).testBit d then 1 else 0) M) : w_Program_isOrBelow P (N c) (N d) M Q := by
  have hb := N_bit0 (F 4 c) hl d hd
  unfold w_Program_isOrBelow w_Program_isOrBelow_18
  simp (disch := omega) only [N_lit, po hY hP, true_and, pr4 hY hP, pi3 hY hP, N_in, N_nat, hm, hb]
  refine ⟨by omega, fun e => ⟨by simp, ?_⟩, fun e => ⟨by simp, ?_⟩⟩
  · show Q 0 M
    rw [e] at hQ; simpa using hQ
  · show Q 1 M
    rw [Bool.not_eq_false] at e
    rw [e] at hQ; simpa using hQ
theorem m_below {L xs nC F S d} (hY : Y L xs S) (hC : nC ≤ 8) (hF : ClF nC F) (hE : ∀ c, c < nC → gi S 163 c = N (F 163 c) - N 1) (hd : d < 8) : ∀ q, q ≤ nC → ∀ Q : Int32 → eM → Prop, Q (if q ≠ 0 ∧ (F 4 (q - 1)).testBit d = true then 1 else 0) S → ∃ n, w_Mod_isBelow_7 n 159 (N d) (N q - N 1) S Q := by
  intro q
  induction q using Nat.strongRecOn with
  | _ q ih =>
    intro hq Q hQ
    by_cases e : q = 0
    · subst e
      refine ⟨1, ?_⟩
      unfold w_Mod_isBelow_7 w_Mod_isBelow_26 w_Mod_isBelow_35
      refine ⟨fun _ => ⟨fun _ => ⟨by simp, by simpa using hQ⟩, fun c => absurd (by decide) c⟩, fun c => absurd (by decide) c⟩
    · have e1 : N q - N 1 = N (q - 1) := N_sub (by omega)
      have hb := hF.bit (c := q - 1) (by omega) d
      obtain ⟨n, hn⟩ : ∃ n, q - 1 = d ∨ w_Mod_isBelow_7 n 159 (N d) (N (F 163 (q - 1)) - N 1) S Q := by
        by_cases e2 : q - 1 = d
        · exact ⟨0, Or.inl e2⟩
        · obtain ⟨n, hn⟩ := ih (F 163 (q - 1)) (by have := (hF (q - 1) (by omega)).1; omega) (by have := (hF (q - 1) (by omega)).1; omega) Q (by
            rw [hb] at hQ
            simpa [e, e2] using hQ)
          exact ⟨n, Or.inr hn⟩
      refine ⟨n + 1, ?_⟩
      rw [e1]
      unfold w_Mod_isBelow_7 w_Mod_isBelow_26 w_Mod_isBelow_35
      simp (disch := omega) only [N_lit, N_lt, N_eq, yo159 hY, true_and, yr159_12 hY, yi163 hY, N_in, N_nat]
      refine ⟨fun c => absurd c (by omega), fun _ => ⟨fun c => ⟨fun z => absurd z (by omega), fun _ => ⟨Or.inr trivial, ?_⟩⟩, fun c => ⟨by omega, ?_⟩⟩⟩
      · rw [hb] at hQ
        show Q 1 S
        simpa [e, c] using hQ
      · rw [hE (q - 1) (by omega)]
        exact hn.resolve_left c
theorem m_isOf {L xs nC F S a d Q} (hY : Y L xs S) (hC : nC ≤ 8) (hF : ClF nC F) (hE : ∀ c, c < nC → gi S 163 c = N (F 163 c) - N 1) (ha : a < nC) (hd : d < 8) (hQ : Q (if (F 4 a).testBit d then 1 else 0) S) : w_Mod_isOf 159 (N a) (N d) S Q := by
  have hb := hF.bit ha d
  have hl := (hF a ha).1
  unfold w_Mod_isOf w_Mod_isOf_14 w_Mod_isOf_19 w_Mod_isBelow
  simp (disch := omega) only [N_eq, yo159 hY, true_and, yr159_12 hY, yi163 hY, N_in, N_nat]
  refine ⟨fun c => ⟨by simp, ?_⟩, fun c => ⟨by omega, ?_⟩⟩
  · rw [hb] at hQ; simpa [c] using hQ
  · rw [hE a ha]
    refine m_below hY hC hF hE hd _ (by omega) _ ?_
    rw [hb] at hQ
    by_cases e : F 163 a ≠ 0 ∧ (F 4 (F 163 a - 1)).testBit d = true
    · rw [if_pos e]
      exact ⟨fun z => absurd z (by decide), fun _ => ⟨by simp, by simpa [c, e.1, e.2] using hQ⟩⟩
    · rw [if_neg e]
      refine ⟨fun _ => ⟨by simp, ?_⟩, fun z => absurd rfl z⟩
      by_cases e1 : F 163 a = 0
      · simpa [c, e1] using hQ
      · have e2 : (F 4 (F 163 a - 1)).testBit d = false := by
          cases h : (F 4 (F 163 a - 1)).testBit d
          · rfl
          · exact absurd ⟨e1, h⟩ e
        simpa [c, e1, e2] using hQ
/-- a method suits a selector in a class -/
def SU (P : Nat) (F : eF) (G : Nat → Nat) (H : eF) (M : eM) (c s m : Nat) : Prop := H 169 m = G s + 1 ∧ gi M (P + 24 + 2 * m) 2 = gi M (P + 7 + 2 * s) 2 ∧ ¬ gi M (P + 24 + 2 * m + 1) 0 < 16 ∧ (F 4 c).testBit ((gi M (P + 24 + 2 * m + 1) 0).toNatClampNeg - 16) = true ∧ ∀ i, i < G s → gi M (P + 24 + 2 * m + 1) (i + 1) = gi M (P + 8 + 2 * s) i
theorem c_suits {L xs P nC nS nM p F G H M c s m Q} (hP : PP P) (hY : Y L xs M) (hr : gr M 9 0 = P) (hC : nC ≤ 8) (hc : c < nC) (hs : s < nS) (hS8 : nS ≤ 8) (hm : m < nM) (hM16 : nM ≤ 16) (hF : CW nC nC P F M) (hG : SW nC nS P G M) (hH : MW nC nM P p H M) (h1 : SU P F G H M c s m → Q 1 M) (h0 : ¬ SU P F G H M c s m → Q 0 M) : w_Reader_suits 9 (N c) (P + 7 + 2 * s) (P + 24 + 2 * m) M Q := by
  have hg := hP.ge
  obtain ⟨f1, f2, f3, f4, f5⟩ := hF c hc
  obtain ⟨g1, g2, g3, g4⟩ := hG s hs
  obtain ⟨⟨y1, -⟩, t1, t2, t3, -⟩ := hH m hm
  have oS := pso hY hP (s := s) (by omega)
  have oM := pmo hY hP (s := m) (by omega)
  have tM := pmt hY hP (s := m) (by omega)
  have tS := pst hY hP (s := s) (by omega)
  have iM := pmi hY hP (s := m) (by omega)
  have iS := psi hY hP (s := s) (by omega)
  rw [show P + 24 + 2 * m + 1 = P + 25 + 2 * m by omega] at t3
  unfold SU at h1 h0
  rw [show P + 24 + 2 * m + 1 = P + 25 + 2 * m by omega] at h1 h0
  unfold w_Reader_suits w_Reader_suits_24 w_Reader_suits_57
  simp (disch := omega) only [N_lit, oS, oM, tM, iM, g2, t1, true_and, N_add, N_eq, N_in, N_nat, yo9 hY, hr, po hY hP]
  refine ⟨fun e => ⟨Or.inl trivial, h0 (fun z => e z.1)⟩, fun e1 => ⟨fun e2 => ⟨by omega, fun e3 => ⟨Or.inl trivial, h0 (fun z => z.2.2.1 e3)⟩, fun e3 => ?_⟩, fun e2 => ⟨Or.inl trivial, h0 (fun z => e2 z.2.1)⟩⟩⟩
  obtain ⟨t, ht, hv⟩ := t3 0 (by omega)
  rw [ht, N_lt (by unfold vt at hv; omega) (by omega)] at e3
  have ht' : t - 16 < 8 := by unfold vt at hv; omega
  rw [ht, N_sub (by omega)]
  refine c_isOrBelow hP hY (by omega) ht' f2 f4.2.1 ?_
  have en : (gi M (P + 25 + 2 * m) 0).toNatClampNeg - 16 = t - 16 := by rw [ht, N_nat (by unfold vt at hv; omega)]
  have el : ¬ gi M (P + 25 + 2 * m) 0 < 16 := by rw [ht, show (16 : Int32) = N 16 from rfl, N_lt (by unfold vt at hv; omega) (by omega)]; exact e3
  by_cases e4 : (F 4 c).testBit (t - 16) = true
  · rw [if_pos e4]
    refine ⟨fun _ => ?_, fun z => absurd z (by decide)⟩
    by_cases e5 : ∀ i, i < G s → gi M (P + 25 + 2 * m) (i + 1) = gi M (P + 8 + 2 * s) i
    · obtain ⟨M1, a1, a2⟩ := lpO (W := fun n i M (Q : Int32 → eM → Prop) => w_Reader_suits_62 n (P + 7 + 2 * s) (P + 24 + 2 * m) (N i) M Q) (I := fun _ M1 => M1 = M) (hi := G s) (fun i M1 hi e => by
        subst e
        refine ⟨M1, rfl, fun n x hn => ?_⟩
        unfold w_Reader_suits_62
        simp (disch := omega) only [N_lit, oS, oM, tM, tS, iM, iS, g2, N_le, N_add, N_in, N_nat, true_and]
        exact ⟨fun z => absurd z (by omega), fun _ => ⟨by omega, by omega, fun _ => hn, fun z => absurd (e5 i hi) z⟩⟩) (G s) 0 M (by omega) rfl
      subst a1
      refine a2 Q ⟨1, ?_⟩
      unfold w_Reader_suits_62
      simp (disch := omega) only [N_lit, oS, g2, N_le, true_and]
      exact ⟨fun _ => ⟨Or.inr trivial, h1 ⟨e1, e2, el, by rw [en]; exact e4, e5⟩⟩, fun z => absurd (Nat.le_refl _) z⟩
    · obtain ⟨i, hi⟩ : ∃ i, ¬ (i < G s → gi M (P + 25 + 2 * m) (i + 1) = gi M (P + 8 + 2 * s) i) := Classical.not_forall.mp e5
      have hex : ∃ i, (i < G s ∧ ¬ gi M (P + 25 + 2 * m) (i + 1) = gi M (P + 8 + 2 * s) i) ∧ ∀ i', i' < i → ¬ (i' < G s ∧ ¬ gi M (P + 25 + 2 * m) (i' + 1) = gi M (P + 8 + 2 * s) i') := by
        have : ∃ i, i < G s ∧ ¬ gi M (P + 25 + 2 * m) (i + 1) = gi M (P + 8 + 2 * s) i := ⟨i, Classical.not_imp.mp hi⟩
        exact least this
      obtain ⟨i, ⟨hi1, hi2⟩, hi3⟩ := hex
      obtain ⟨M1, a1, a2⟩ := lpO (W := fun n i M (Q : Int32 → eM → Prop) => w_Reader_suits_62 n (P + 7 + 2 * s) (P + 24 + 2 * m) (N i) M Q) (I := fun _ M1 => M1 = M) (hi := i) (fun i' M1 hlt e => by
        subst e
        refine ⟨M1, rfl, fun n x hn => ?_⟩
        unfold w_Reader_suits_62
        simp (disch := omega) only [N_lit, oS, oM, tM, tS, iM, iS, g2, N_le, N_add, N_in, N_nat, true_and]
        exact ⟨fun z => absurd z (by omega), fun _ => ⟨by omega, by omega, fun _ => hn, fun z => absurd ⟨by omega, z⟩ (hi3 i' hlt)⟩⟩) i 0 M (by omega) rfl
      subst a1
      refine a2 Q ⟨1, ?_⟩
      unfold w_Reader_suits_62
      simp (disch := omega) only [N_lit, oS, oM, tM, tS, iM, iS, g2, N_le, N_add, N_in, N_nat, true_and]
      exact ⟨fun z => absurd z (by omega), fun _ => ⟨by omega, by omega, fun z => absurd z hi2, fun _ => ⟨Or.inl trivial, h0 (fun z => e5 z.2.2.2.2)⟩⟩⟩
  · rw [if_neg e4]
    exact ⟨fun z => absurd rfl z, fun _ => ⟨Or.inl trivial, h0 (fun z => e4 (by have := z.2.2.2.1; rw [en] at this; exact this))⟩⟩
