theorem c_goBehind {L xs P D m M j} {T : Nat → eS} {w : Nat → Nat} (hP : PP P) (hD : KD D) (hm : m < D 0 2) (hF : FS L xs P D m T w M) (hg : good D m j) (hb : bg D m j) (h0 : (T j).1 ≠ 0) :
    ∃ M1 T1 w1, FS L xs P D m T1 w1 M1 ∧ GS P D m T w M T1 w1 M1 ∧ (∀ t o, sucD D m j t → outS D m j (T j) o → leS D o (T1 t)) ∧ ∀ Q : eM → Prop, Q M1 → w_Verifier_goBehind 11 (N (D 5 m + j)) M Q := by
  have hgr := hP.ge
  have hF0 := hF
  obtain ⟨hV, hR, hw, hw1, hT, hTb, hwT, hbl⟩ := hF
  have jl := bg_lt hb
  obtain ⟨g0, g1, g2, g3, g4, g5, g6, g7⟩ := good_f hD hm hg
  have hd := hD.1
  have h2 := (hD.2.2.2.1 m hm).1
  obtain ⟨hY, h3, h4, hK, hB⟩ := hV
  obtain ⟨b1, b2, b3⟩ := hK.b hD hm jl
  obtain ⟨q1, q2⟩ := hR j jl
  obtain ⟨M1, o, f1, o1, c1, w1⟩ := c_behind hP hD hm ⟨hY, h3, h4, hK, hB⟩ hg jl (hT j) h0 q1 q2
  have ow := outS_wf hD hm hg (hT j) o1
  obtain ⟨F1, G1⟩ := hF0.fv hP hD f1
  have bel : ∀ t, sucD D m j t → ∀ U, Sol D m U → leS D o (U t) := fun t ht => out_below hD hm hg hb hT hbl h0 o1 ht
  have sb : ∀ t, sucD D m j t → bg D m t := fun t ht => suc_bg hD hm hg hb ht
  have fin : ∀ (T1 : Nat → eS), (∀ t, wfS D (T1 t)) → (∀ t, sucD D m j t → leS D o (T1 t)) → ∀ t o, sucD D m j t → outS D m j (T j) o → leS D o (T1 t) := by
    intro T1 hT1 h t o' ht ho'
    exact leS_tr hD (outS_wf hD hm hg (hT j) ho') ow (hT1 t) (outS_mono (hT j) (hT j) (fun c => (g1 (Or.inl c)).2.2) (leS_rf _) h0 ho' o1) (h t ht)
  have hV1 := F1.1
  obtain ⟨hY1, h31, h41, hK1, hB1⟩ := hV1
  have red : ∀ Q : eM → Prop, (((cdD D m j) = 49 → Q M1) ∧ (¬ (cdD D m j) = 49 → (¬ (cdD D m j) = 50 → (¬ (cdD D m j) = 53 → ((cdD D m j) < 21 → w_Verifier_goBehind_124 11 (N (D 5 m + j)) (N (cdD D m j)) M1 Q) ∧ (¬ (cdD D m j) < 21 → (37 < (cdD D m j) → w_Verifier_goBehind_124 11 (N (D 5 m + j)) (N (cdD D m j)) M1 Q) ∧ (¬ 37 < (cdD D m j) → w_Verifier_comeTo 11 (N (D 5 m + cdD D m (j + 1))) M1 (fun (M2 : eM) => w_Verifier_goBehind_124 11 (N (D 5 m + j)) (N (cdD D m j)) M2 Q)))) ∧ ((cdD D m j) = 53 → ∃ n3 : Nat, w_Verifier_goBehind_50 n3 11 (N (D 5 m + j)) (N (cdD D m (j + 1))) 0 M1 Q)) ∧ ((cdD D m j) = 50 → Q M1))) → w_Verifier_goBehind 11 (N (D 5 m + j)) M Q := by
    intro Q h
    unfold w_Verifier_goBehind w_Verifier_goBehind_28
    simp (disch := omega) only [yo11 hY, h3, po hY hP, true_and, pr0 hY hP, pi1 hY hP, N_in, N_nat, b1]
    refine ⟨b3, w1 _ ?_⟩
    simp (disch := omega) only [N_lit, N_eq, N_lt, yo11 hY1, h31, h41, po hY1 hP, true_and, pr0 hY1 hP, pi1 hY1 hP, N_add, N_in, N_nat, pmo hY1 hP]
    refine ⟨h.1, fun e1 => ⟨fun e2 => ⟨fun e3 => ⟨((h.2 e1).1 e2).1 e3 |>.1, fun e4 => ⟨(((h.2 e1).1 e2).1 e3).2 e4 |>.1, fun e5 => ?_⟩⟩, fun e3 => ?_⟩, (h.2 e1).2⟩⟩
    · obtain ⟨x1, x2⟩ := g6 (by omega)
      obtain ⟨d1, d2, d3⟩ := hK1.b hD hm x1
      rw [show D 5 m + (j + 1) = D 5 m + j + 1 by omega] at d1
      rw [d1, (hK1.2.2.2.2.1 m hm).2.2.2.2.2.1, N_add]
      exact ⟨by omega, ((((h.2 e1).1 e2).1 e3).2 e4).2 e5⟩
    · obtain ⟨x1, x2⟩ := g7 e3
      obtain ⟨d1, d2, d3⟩ := hK1.b hD hm x1
      rw [show D 5 m + (j + 1) = D 5 m + j + 1 by omega] at d1
      rw [d1]
      exact ⟨by omega, ((h.2 e1).1 e2).2 e3⟩
  have n124 : ∀ {M2 : eM} {T2 : Nat → eS} {w2 : Nat → Nat}, FS L xs P D m T2 w2 M2 → CUR o M2 → GS P D m T w M T2 w2 M2 → cdD D m j ≠ 49 → cdD D m j ≠ 50 → cdD D m j ≠ 53 → (21 ≤ cdD D m j ∧ cdD D m j ≤ 37 → leS D o (T2 (cdD D m (j + 1)))) →
      ∃ M1 T1 w1, FS L xs P D m T1 w1 M1 ∧ GS P D m T w M T1 w1 M1 ∧ (∀ t, sucD D m j t → leS D o (T1 t)) ∧ ∀ Q : eM → Prop, Q M1 → w_Verifier_goBehind_124 11 (N (D 5 m + j)) (N (cdD D m j)) M2 Q := by
    intro M2 T2 w2 F2 C2 G2 n49 n50 n53 hj
    by_cases e : cdD D m j = 21
    · refine ⟨M2, T2, w2, F2, G2, fun t ht => ?_, fun Q hQ => ?_⟩
      · rcases ht with ⟨c, _⟩ | ⟨c1, c2, rfl⟩ | ⟨c1, _⟩
        · omega
        · exact hj (by omega)
        · omega
      · unfold w_Verifier_goBehind_124 w_Verifier_goBehind_145
        simp (disch := omega) only [N_lit, N_eq]
        exact ⟨fun _ => hQ, fun z => absurd e z⟩
    · have hs : sucD D m j (j + il D m j) := Or.inr (Or.inr ⟨e, n49, n50, n53, rfl⟩)
      obtain ⟨M3, T3, w3, F3, C3, G3, l3, p3⟩ := c_come2 hP hD hm F2 C2 ow (sb _ hs) (bel _ hs)
      refine ⟨M3, T3, w3, F3, G2.t hD hF0 F2 F3 G3, fun t ht => ?_, fun Q hQ => ?_⟩
      · rcases ht with ⟨c, _⟩ | ⟨c1, c2, rfl⟩ | ⟨c1, c2, c3, c4, rfl⟩
        · omega
        · exact leS_tr hD ow (F2.2.2.2.2.1 _) (F3.2.2.2.2.1 _) (hj (by omega)) (G3.2.1 _)
        · exact l3
      · obtain ⟨hY2, h32, h42, hK2, hB2⟩ := F2.1
        have hz := (hB2 j jl).1 hb
        rw [if_neg hg.1] at hz
        have := (il_le hg.1).2.1
        unfold w_Verifier_goBehind_124 w_Verifier_goBehind_145
        simp (disch := omega) only [N_lit, N_eq, yo11 hY2, h32, po hY2 hP, true_and, pr12 hY2 hP, pi57 hY2 hP, N_in, N_nat, hz, N_add]
        refine ⟨fun z => absurd z e, fun _ => ⟨b3, ?_⟩⟩
        rw [Nat.add_assoc]
        exact p3 Q hQ
  by_cases e49 : cdD D m j = 49
  · refine ⟨M1, T, w, F1, G1, fin T hT (fun t ht => ?_), fun Q hQ => red Q ⟨fun _ => hQ, fun z => absurd e49 z⟩⟩
    unfold sucD at ht; omega
  by_cases e50 : cdD D m j = 50
  · refine ⟨M1, T, w, F1, G1, fin T hT (fun t ht => ?_), fun Q hQ => red Q ⟨fun z => absurd z e49, fun _ => ⟨fun z => absurd e50 z, fun _ => hQ⟩⟩⟩
    unfold sucD at ht; omega
  by_cases e53 : cdD D m j = 53
  · obtain ⟨x1, x2, x3, x4⟩ := g7 e53
    obtain ⟨M2, ⟨T2, w2, F2, G2, C2, L2⟩, p2⟩ := lpO (X := eM → Prop) (W := fun n f M Q => w_Verifier_goBehind_50 n 11 (N (D 5 m + j)) (N (cdD D m (j + 1))) (N f) M Q) (hi := cdD D m (j + 1) + 1)
      (I := fun f M' => ∃ T2 w2, FS L xs P D m T2 w2 M' ∧ GS P D m T w M T2 w2 M' ∧ CUR o M' ∧ ∀ i, i < f → leS D o (T2 (cdD D m (j + 2 + i)))) (fun f M' hf ⟨T2, w2, F2, G2, C2, L2⟩ => by
        have hs : sucD D m j (cdD D m (j + 2 + f)) := Or.inl ⟨e53, f, by omega, rfl⟩
        obtain ⟨M3, T3, w3, F3, C3, G3, l3, p3⟩ := c_come2 hP hD hm F2 C2 ow (sb _ hs) (bel _ hs)
        refine ⟨M3, ⟨T3, w3, F3, G2.t hD hF0 F2 F3 G3, C3, fun i hi => ?_⟩, fun n Q hQ => ?_⟩
        · by_cases ei : i = f
          · rw [ei]; exact l3
          · exact leS_tr hD ow (F2.2.2.2.2.1 _) (F3.2.2.2.2.1 _) (L2 i (by omega)) (G3.2.1 _)
        · obtain ⟨hY2, h32, h42, hK2, hB2⟩ := F2.1
          obtain ⟨d1, d2, d3⟩ := hK2.b hD hm (x4 f (by omega)).1
          rw [show D 5 m + (j + 2 + f) = D 5 m + j + 2 + f by omega] at d1
          unfold w_Verifier_goBehind_50
          simp (disch := omega) only [N_lit, N_lt, N_add, yo11 hY2, h32, h42, po hY2 hP, pmo hY2 hP, true_and, pr0 hY2 hP, pi1 hY2 hP, N_in, N_nat, d1, (hK2.2.2.2.2.1 m hm).2.2.2.2.2.1]
          exact ⟨fun z => absurd z (by omega), fun _ => ⟨by omega, p3 _ hQ⟩⟩) (cdD D m (j + 1) + 1) 0 M1 (by omega) ⟨T, w, F1, G1, c1, fun i hi => by omega⟩
    refine ⟨M2, T2, w2, F2, G2, fin T2 F2.2.2.2.2.1 (fun t ht => ?_), fun Q hQ => red Q ⟨fun z => absurd z e49, fun _ => ⟨fun _ => ⟨fun z => absurd e53 z, fun _ => p2 Q ⟨1, ?_⟩⟩, fun z => absurd z e50⟩⟩⟩
    · rcases ht with ⟨c, i, h1, rfl⟩ | ⟨c1, c2, rfl⟩ | ⟨c1, c2, c3, c4, rfl⟩
      · exact L2 i (by omega)
      · omega
      · omega
    · unfold w_Verifier_goBehind_50
      rw [N_lt (by omega) (by omega)]
      exact ⟨fun _ => hQ, fun z => absurd (by omega) z⟩
  by_cases e21 : 21 ≤ cdD D m j ∧ cdD D m j ≤ 37
  · have hs : sucD D m j (cdD D m (j + 1)) := Or.inr (Or.inl ⟨e21.1, e21.2, rfl⟩)
    obtain ⟨M3, T3, w3, F3, C3, G3, l3, p3⟩ := c_come2 hP hD hm F1 c1 ow (sb _ hs) (bel _ hs)
    obtain ⟨M4, T4, w4, F4, G4, l4, p4⟩ := n124 F3 C3 (G1.t hD hF0 F1 F3 G3) e49 e50 e53 (fun _ => l3)
    refine ⟨M4, T4, w4, F4, G4, fin T4 F4.2.2.2.2.1 l4, fun Q hQ => red Q ⟨fun z => absurd z e49, fun _ => ⟨fun _ => ⟨fun _ => ⟨fun z => by omega, fun _ => ⟨fun z => by omega, fun _ => p3 _ (p4 Q hQ)⟩⟩, fun z => absurd z e53⟩, fun z => absurd z e50⟩⟩⟩
  · obtain ⟨M4, T4, w4, F4, G4, l4, p4⟩ := n124 F1 c1 G1 e49 e50 e53 (fun z => absurd z e21)
    refine ⟨M4, T4, w4, F4, G4, fin T4 F4.2.2.2.2.1 l4, fun Q hQ => red Q ⟨fun z => absurd z e49, fun _ => ⟨fun _ => ⟨fun _ => ⟨fun _ => p4 Q hQ, fun z => ⟨fun _ => p4 Q hQ, fun z2 => absurd ⟨by omega, by omega⟩ e21⟩⟩, fun z => absurd z e53⟩, fun z => absurd z e50⟩⟩⟩
