theorem m_stand {L xs P b nC nS nM p F G H M S c s m Q} (hY : Y L xs S) (hC : nC ≤ 8) (hc : c < nC) (hs : s < nS) (hS8 : nS ≤ 8) (hm : m < nM) (hM16 : nM ≤ 16) (hF : CW nC nC P F M) (hG : SW nC nS P G M) (hH : MW nC nM P p H M) (eC : EqC nC P F M S) (eS : EqS nS P G M S) (eM' : EqM nM P b H M S) (h1 : SU P F G H M c s m → Q 1 S) (h0 : ¬ SU P F G H M c s m → Q 0 S) : w_Mod_mayStand 159 (N c) (N s) (N m) S Q := by
  obtain ⟨g1, g2, g3, g4⟩ := hG s hs
  obtain ⟨⟨y1, -⟩, t1, t2, t3, -⟩ := hH m hm
  obtain ⟨u1, u2, u3⟩ := eS s hs
  obtain ⟨v1, v2, v3, -⟩ := eM' m hm
  unfold SU at h1 h0
  unfold w_Mod_mayStand w_Mod_mayStand_64
  simp (disch := omega) only [N_lit, yo159 hY, yr159_20 hY, yr159_16 hY, yr159_21 hY, yr159_22 hY, yr159_18 hY, yi169 hY, yi166 hY, yi168 hY, yi170 hY, yi171 hY, true_and, N_in, N_nat, v1, u1, v2, u2, N_add, N_mul, N_eq]
  refine ⟨by omega, by omega, fun e => ⟨Or.inl trivial, h0 (fun z => e z.1)⟩, fun e1 => ⟨by omega, by omega, fun e2 => ⟨Or.inl trivial, h0 (fun z => e2 z.2.1)⟩, fun e2 => ⟨by omega, ?_⟩⟩⟩
  have v30 := v3 0 (by omega)
  rw [show 4 * m + 0 = 4 * m by omega] at v30
  rw [v30]
  refine ⟨fun e3 => ⟨Or.inl trivial, h0 (fun z => z.2.2.1 e3)⟩, fun e3 => ⟨by omega, ?_⟩⟩
  obtain ⟨t, ht, hv⟩ := t3 0 (by omega)
  have el := e3
  rw [ht, N_lt (by unfold vt at hv; omega) (by omega)] at e3
  have ht' : t - 16 < 8 := by unfold vt at hv; omega
  rw [ht, N_sub (by omega)]
  refine m_isOf hY hC hF.cl (fun c hc => (eC c hc).1) hc ht' ?_
  have en : (gi M (P + 24 + 2 * m + 1) 0).toNatClampNeg - 16 = t - 16 := by rw [ht, N_nat (by unfold vt at hv; omega)]
  by_cases e4 : (F 4 c).testBit (t - 16) = true
  · rw [if_pos e4]
    refine ⟨fun _ => ?_, fun z => absurd z (by decide)⟩
    have rd : ∀ i, i < G s → gi S 170 (4 * m + 1 + i) = gi M (P + 24 + 2 * m + 1) (i + 1) := fun i hi => by
      rw [show 4 * m + 1 + i = 4 * m + (i + 1) by omega]; exact v3 (i + 1) (by omega)
    have step : ∀ i, i < G s → ∀ n (x : Int32 → eM → Prop), (gi M (P + 24 + 2 * m + 1) (i + 1) = gi M (P + 8 + 2 * s) i → w_Mod_mayStand_69 n 159 (N s) (N m) (N (i + 1)) S x) → (¬ gi M (P + 24 + 2 * m + 1) (i + 1) = gi M (P + 8 + 2 * s) i → x 0 S) → w_Mod_mayStand_69 (n + 1) 159 (N s) (N m) (N i) S x := by
      intro i hi n x ha hb
      unfold w_Mod_mayStand_69
      simp (disch := omega) only [N_lit, yo159 hY, yr159_16 hY, yr159_17 hY, yr159_21 hY, yi166 hY, yi167 hY, yi170 hY, true_and, N_in, N_nat, u1, N_add, N_mul, N_le, rd i hi, u3 i hi]
      exact ⟨by omega, fun z => absurd z (by omega), fun _ => ⟨by omega, by omega, fun z => ha z, fun z => ⟨Or.inl trivial, hb z⟩⟩⟩
    by_cases e5 : ∀ i, i < G s → gi M (P + 24 + 2 * m + 1) (i + 1) = gi M (P + 8 + 2 * s) i
    · obtain ⟨M1, a1, a2⟩ := lpO (W := fun n i M (Q : Int32 → eM → Prop) => w_Mod_mayStand_69 n 159 (N s) (N m) (N i) M Q) (I := fun _ M1 => M1 = S) (hi := G s) (fun i M1 hi e => by
        subst e
        exact ⟨M1, rfl, fun n x hn => step i hi n x (fun _ => hn) (fun z => absurd (e5 i hi) z)⟩) (G s) 0 S (by omega) rfl
      subst a1
      refine a2 Q ⟨1, ?_⟩
      unfold w_Mod_mayStand_69
      simp (disch := omega) only [N_lit, yo159 hY, yr159_16 hY, yi166 hY, true_and, N_in, N_nat, u1, N_le]
      exact ⟨by omega, fun _ => ⟨Or.inr trivial, h1 ⟨e1, e2, el, by rw [en]; exact e4, e5⟩⟩, fun z => absurd (Nat.le_refl _) z⟩
    · obtain ⟨i, hi⟩ : ∃ i, ¬ (i < G s → gi M (P + 24 + 2 * m + 1) (i + 1) = gi M (P + 8 + 2 * s) i) := Classical.not_forall.mp e5
      obtain ⟨i, ⟨hi1, hi2⟩, hi3⟩ := least (p := fun i => i < G s ∧ ¬ gi M (P + 24 + 2 * m + 1) (i + 1) = gi M (P + 8 + 2 * s) i) ⟨i, Classical.not_imp.mp hi⟩
      obtain ⟨M1, a1, a2⟩ := lpO (W := fun n i M (Q : Int32 → eM → Prop) => w_Mod_mayStand_69 n 159 (N s) (N m) (N i) M Q) (I := fun _ M1 => M1 = S) (hi := i) (fun i' M1 hlt e => by
        subst e
        exact ⟨M1, rfl, fun n x hn => step i' (by omega) n x (fun _ => hn) (fun z => absurd ⟨by omega, z⟩ (hi3 i' hlt))⟩) i 0 S (by omega) rfl
      subst a1
      exact a2 Q ⟨1, step i hi1 0 Q (fun z => absurd z hi2) (fun _ => h0 (fun z => e5 z.2.2.2.2))⟩
  · rw [if_neg e4]
    exact ⟨fun z => absurd rfl z, fun _ => ⟨Or.inl trivial, h0 (fun z => e4 (by have := z.2.2.2.1; rw [en] at this; exact this))⟩⟩
