/-! ===== pure: all selectors ===== -/
def SW (nC k P : Nat) (G : Nat → Nat) (M : eM) : Prop := ∀ s, s < k → G s ≤ 3 ∧ gi M (P + 7 + 2 * s) 1 = N (G s) ∧ tyv nC 0 (gi M (P + 7 + 2 * s) 2) ∧ ∀ i, i < G s → tyv nC 1 (gi M (P + 8 + 2 * s) i)
def EqS (k P : Nat) (G : Nat → Nat) (M S : eM) : Prop := ∀ s, s < k → gi S 166 s = N (G s) ∧ gi S 168 s = gi M (P + 7 + 2 * s) 2 ∧ ∀ i, i < G s → gi S 167 (3 * s + i) = gi M (P + 8 + 2 * s) i
abbrev ocS (P : Nat) : Nat → Nat → Prop := fun a j => a = 9 ∨ (a = P ∧ j = 7) ∨ (P + 7 ≤ a ∧ a ≤ P + 22)
abbrev omL : Nat → Nat → Prop := fun a j => (a = 159 ∧ (j = 15 ∨ j = 81 ∨ j = 82)) ∨ a = 166 ∨ a = 167 ∨ a = 168
/-- a selector, in step -/
theorem l_sel {L xs P k p len b nC M} {C : eM → Prop} (hP : PP P) (hk : k < 8) (hC : nC ≤ 8) (hCs : ∀ S S', C S → FI (omS 166 167 168 k 3) S S' → C S') (hCn : ∀ S, C S → Y L xs S ∧ gi S 159 11 = N nC) (hY : Y L xs M) (hn : gi M P 2 = N nC) (hR : RO P p len b M) :
    ∃ M1, FI (oS (P + 7 + 2 * k)) M M1 ∧ (∀ Q : eM → Prop, Q M1 → w_Reader_readShape 9 (P + 7 + 2 * k) (N 3) M Q) ∧
    ((∃ p' np, p ≤ p' ∧ np ≤ 3 ∧ gi M1 (P + 7 + 2 * k) 1 = N np ∧ tyv nC 0 (gi M1 (P + 7 + 2 * k) 2) ∧ (∀ i, i < np → tyv nC 1 (gi M1 (P + 7 + 2 * k + 1) i)) ∧ RO P p' len b M1 ∧ MP oM (fun S (Q : eM → Prop) => w_Mod_readSelector 159 (N k) S Q) (fun S => MO p len b S ∧ C S) (fun S => MO p' len b S ∧ C S ∧ gi S 166 k = N np ∧ gi S 168 k = gi M1 (P + 7 + 2 * k) 2 ∧ ∀ i, i < np → gi S 167 (3 * k + i) = gi M1 (P + 7 + 2 * k + 1) i) (fun S Q => Q S))
    ∨ (∃ w, RW P w M1 ∧ MP oM (fun S (Q : eM → Prop) => w_Mod_readSelector 159 (N k) S Q) (fun S => MO p len b S ∧ C S) (fun S => C S ∧ MB w S) (fun S Q => Q S))) := by
  refine l_shape (Wm := fun n i S (Q : eM → Prop) => w_Mod_readSelector_14 n 159 (N k) (N i) S Q) hP (Or.inl ⟨k, hk, rfl⟩) (by omega) (by omega) hC (by omega) (by omega) ?_ ?_ ?_ ?_ ?_ ?_ hCs hCn hY hn hR MP.rf
  · intro np n i S x hnp hS hcp hi h
    show w_Mod_readSelector_14 (n + 1) 159 (N k) (N i) S x
    unfold w_Mod_readSelector_14
    simp (disch := omega) only [N_lit, yo159 hS, yr159_16 hS, yr159_17 hS, yr159_18 hS, yi166 hS, N_in, N_nat, true_and, hcp, N_le, N_mul, N_add]
    exact ⟨by omega, fun c => absurd c (by omega), fun _ => h⟩
  · intro S x hS h
    show w_Mod_readSelector 159 (N k) S x
    unfold w_Mod_readSelector
    simp (disch := omega) only [N_lit, yo159 hS, yr159_16 hS, N_nat, true_and]
    exact h
  · intro np S x hnp hS hcp h
    show w_Mod_readSelector_14 1 159 (N k) (N np) S x
    unfold w_Mod_readSelector_14
    simp (disch := omega) only [yo159 hS, yr159_16 hS, yr159_17 hS, yr159_18 hS, yi166 hS, N_in, N_nat, true_and, hcp, N_le]
    exact ⟨by omega, fun _ => h, fun c => absurd (Nat.le_refl _) c⟩
  · intro S hS i hi
    rw [ya167 hS, N_in (by omega)]; omega
  · intro S hS
    rw [ya166 hS, N_in (by omega)]; omega
  · intro S hS
    rw [ya168 hS, N_in (by omega)]; omega
theorem m_67 {L xs k nS S S' n Q} (hkn : k < nS) (hS8 : nS ≤ 8) (hY : Y L xs S) (hn : gi S 159 15 = N nS) (hb : gi S 159 82 = 0) (hr : ∀ Q : eM → Prop, Q S' → w_Mod_readSelector 159 (N k) S Q) (h : w_Mod_takeApart_67 n 159 (N (k + 1)) S' Q) : w_Mod_takeApart_67 (n + 1) 159 (N k) S Q := by
  unfold w_Mod_takeApart_67
  rw [hn, hb, N_le (by omega) (by omega)]
  refine ⟨yo159 hY, fun c => absurd c (by omega), fun _ => ⟨yo159 hY, fun c => absurd rfl c, fun _ => ⟨yo159 hY, hr _ ?_⟩⟩⟩
  simp only [N_lit, N_add]
  exact h
theorem m_67B {L xs x w S Q} (hY : Y L xs S) (hb : MB w S) (h : w_Mod_takeApart_93 159 S Q) : w_Mod_takeApart_67 1 159 x S Q := by
  unfold w_Mod_takeApart_67
  refine ⟨yo159 hY, fun _ => h, fun _ => ⟨yo159 hY, fun _ => h, fun c => ?_⟩⟩
  rw [hb.2] at c
  exact absurd c (by decide)
theorem l_selectors {L xs P len b nC M} {B : eM → eM → Prop} {J : eM → Prop} {Z : Prop} (hP : PP P) (hC : nC ≤ 8) (hBc : ∀ M M' S, B M S → FI (ocS P) M M' → B M' S) (hBm : ∀ M S S', B M S → FI omL S S' → B M S') (hBn : ∀ M S, B M S → Y L xs S ∧ gi S 159 11 = N nC) (hY : Y L xs M) (hn : gi M P 2 = N nC)
    (hin : (Z ∧ ∃ p, RO P p len b M ∧ MP oM Wt J (fun S => MO p len b S ∧ B M S) (fun S Q => w_Mod_takeApart_54 159 S Q)) ∨ (∃ w, RW P w M ∧ MP oM Wt J (fun S => Y L xs S ∧ MB w S) (fun S Q => w_Mod_takeApart_54 159 S Q))) :
    ∃ M1, FI (ocS P) M M1 ∧ (∀ Q : eM → Prop, Q M1 → w_Reader_readSelectors 9 M Q) ∧ ∃ nS, nS ≤ 8 ∧ gi M1 P 7 = N nS ∧
    ((Z ∧ ∃ p G, RO P p len b M1 ∧ SW nC nS P G M1 ∧ MP oM Wt J (fun S => MO p len b S ∧ B M1 S ∧ gi S 159 15 = N nS ∧ EqS nS P G M1 S) (fun S Q => w_Mod_takeApart_93 159 S Q))
    ∨ (∃ w, RW P w M1 ∧ MP oM Wt J (fun S => Y L xs S ∧ MB w S) (fun S Q => w_Mod_takeApart_93 159 S Q))) := by
  have hg := hP.ge
  have loop : ∀ M0, Y L xs M0 → ∀ nS, nS ≤ 8 → gi M0 P 2 = N nC → gi M0 P 7 = N nS → ((Z ∧ ∃ p, RO P p len b M0 ∧ MP oM Wt J (fun S => MO p len b S ∧ B M0 S ∧ gi S 159 15 = N nS) (fun S Q => ∃ n, w_Mod_takeApart_67 n 159 (N 0) S Q)) ∨ (∃ w, RW P w M0 ∧ MP oM Wt J (fun S => Y L xs S ∧ MB w S) (fun S Q => w_Mod_takeApart_93 159 S Q))) →
      ∃ M1, FI (ocS P) M0 M1 ∧ (∀ Q : eM → Prop, Q M1 → ∃ n, w_Reader_readSelectors_16 n 9 (N 0) M0 Q) ∧ gi M1 P 7 = N nS ∧
      ((Z ∧ ∃ p G, RO P p len b M1 ∧ SW nC nS P G M1 ∧ MP oM Wt J (fun S => MO p len b S ∧ B M1 S ∧ gi S 159 15 = N nS ∧ EqS nS P G M1 S) (fun S Q => w_Mod_takeApart_93 159 S Q))
      ∨ (∃ w, RW P w M1 ∧ MP oM Wt J (fun S => Y L xs S ∧ MB w S) (fun S Q => w_Mod_takeApart_93 159 S Q))) := by
    intro M0 hY0 nS hS8 hn0 hs0 hst
    have hY' : ∀ M, FI (ocS P) M0 M → Y L xs M := fun M h => h.Y (fun a j ha => by unfold ocS; omega) hY0
    have hn' : ∀ M, FI (ocS P) M0 M → gi M P 2 = N nC := fun M h => by rw [h.gi (by unfold ocS; omega)]; exact hn0
    obtain ⟨M1, a1, a2⟩ := lpE (W := fun n k M (Q : eM → Prop) => w_Reader_readSelectors_16 n 9 (N k) M Q)
      (I := fun k M => FI (ocS P) M0 M ∧ gi M P 7 = N nS ∧ Z ∧ ∃ p G, RO P p len b M ∧ SW nC k P G M ∧ MP oM Wt J (fun S => MO p len b S ∧ B M S ∧ gi S 159 15 = N nS ∧ EqS k P G M S) (fun S Q => ∃ n, w_Mod_takeApart_67 n 159 (N k) S Q))
      (E := fun k M => FI (ocS P) M0 M ∧ gi M P 7 = N nS ∧ ∃ w, RW P w M ∧ MP oM Wt J (fun S => Y L xs S ∧ MB w S) (fun S Q => w_Mod_takeApart_93 159 S Q)) (hi := nS)
      (fun k M hk ⟨q1, q7, qz, p, G, q2, q3, q4⟩ => by
        have hYM := hY' M q1
        obtain ⟨M', b1, b2, b3⟩ := l_sel (k := k) (C := fun S => B M S ∧ gi S 159 15 = N nS ∧ EqS k P G M S) hP (by omega) hC (fun S S' ⟨z1, z2, z3⟩ hf => ⟨hBm M S S' z1 (hf.up (fun a j z => by unfold omS at z; unfold omL; omega)), by rw [hf.gi (by unfold omS; omega)]; exact z2, fun s hs => ⟨by rw [hf.gi (by unfold omS; omega)]; exact (z3 s hs).1, by rw [hf.gi (by unfold omS; omega)]; exact (z3 s hs).2.1, fun i hi => by
            have := (q3 s hs).1
            rw [hf.gi (by unfold omS; omega)]; exact (z3 s hs).2.2 i hi⟩⟩) (fun S z => hBn M S z.1) hYM (hn' M q1) q2
        have f1 : FI (ocS P) M M' := b1.up (fun a j z => by unfold oS at z; unfold ocS; omega)
        have v7 : gi M' P 7 = N nS := by rw [b1.gi (by unfold oS; omega)]; exact q7
        have cl : ∀ n Q, w_Reader_readSelectors_16 n 9 (N (k + 1)) M' Q → w_Reader_readSelectors_16 (n + 1) 9 (N k) M Q := by
          intro n Q h
          unfold w_Reader_readSelectors_16
          simp (disch := omega) only [q2.1, q7, N_le, yo9 hYM, po hYM hP, true_and, pr8 hYM hP, pa6 hYM hP, N_in, N_nat, psr hYM hP]
          refine ⟨fun c => absurd c (by omega), fun _ => ⟨Or.inr (by omega), b2 _ ?_⟩⟩
          simp only [N_lit, N_add]
          exact h
        have conv : ∀ S, B M S ∧ gi S 159 15 = N nS ∧ EqS k P G M S → B M' S ∧ gi S 159 15 = N nS ∧ EqS k P G M' S := fun S ⟨z1, z2, z3⟩ => ⟨hBc M M' S z1 f1, z2, fun s hs => ⟨(z3 s hs).1, by rw [b1.gi (by unfold oS; omega)]; exact (z3 s hs).2.1, fun i hi => by rw [b1.gi (by unfold oS; omega)]; exact (z3 s hs).2.2 i hi⟩⟩
        refine ⟨M', ?_, cl⟩
        rcases b3 with ⟨p', np, -, c0, c1, c2, c3, c4, c5⟩ | ⟨w, c1, c2⟩
        · refine Or.inl ⟨FI.t2 q1 f1, v7, qz, p', fun s => if s = k then np else G s, c4, fun s hs => ?_, q4.st fun S hS => ?_⟩
          · by_cases e : s = k
            · subst e
              simp only [if_true]
              exact ⟨c0, c1, c2, fun i hi => by rw [show P + 8 + 2 * s = P + 7 + 2 * s + 1 by omega]; exact c3 i hi⟩
            · simp only [if_neg e]
              obtain ⟨y1, y2, y3, y4⟩ := q3 s (by omega)
              exact ⟨y1, by rw [b1.gi (by unfold oS; omega)]; exact y2, by rw [b1.gi (by unfold oS; omega)]; exact y3, fun i hi => by rw [b1.gi (by unfold oS; omega)]; exact y4 i hi⟩
          · obtain ⟨S', d1, ⟨d2, d3, d4, d5, d6⟩, d7⟩ := c5 S hS
            obtain ⟨e1, e2, e3⟩ := conv S' d3
            refine ⟨S', d1, ⟨d2, e1, e2, fun s hs => ?_⟩, fun Q ⟨n, hn⟩ => ⟨n + 1, m_67 hk hS8 (hBn M S hS.2.1).1 hS.2.2.1 hS.1.2.1 d7 hn⟩⟩
            by_cases e : s = k
            · subst e
              simp only [if_true]
              exact ⟨d4, d5, fun i hi => by rw [show P + 8 + 2 * s = P + 7 + 2 * s + 1 by omega]; exact d6 i hi⟩
            · simp only [if_neg e]; exact e3 s (by omega)
        · refine Or.inr ⟨FI.t2 q1 f1, v7, w, c1, q4.st fun S hS => ?_⟩
          obtain ⟨S', d1, ⟨d2, d3⟩, d7⟩ := c2 S hS
          have hY9 := (hBn M S' d2.1).1
          exact ⟨S', d1, ⟨hY9, d3⟩, fun Q h => ⟨1 + 1, m_67 hk hS8 (hBn M S hS.2.1).1 hS.2.2.1 hS.1.2.1 d7 (m_67B hY9 d3 h)⟩⟩)
      (fun k M hk ⟨q1, q7, w, q2, q4⟩ => by
        have hYM := hY' M q1
        refine ⟨e_si (e_si M (P + 7 + 2 * k) 1 (N 0)) (P + 7 + 2 * k) 2 (N 0), ⟨FI.si (FI.si q1 (by unfold ocS; omega)) (by unfold ocS; omega), by rw [gd (by omega), gd (by omega)]; exact q7, w, (q2.si (by omega)).si (by omega), q4⟩, fun n Q hn => ?_⟩
        unfold w_Reader_readSelectors_16
        simp (disch := omega) only [q2.1, q7, N_le, yo9 hYM, po hYM hP, true_and, pr8 hYM hP, pa6 hYM hP, N_in, N_nat, psr hYM hP]
        refine ⟨fun c => absurd c (by omega), fun _ => ⟨Or.inr (by omega), c_shapeW hP (Or.inl ⟨k, by omega, rfl⟩) hYM q2 ?_⟩⟩
        simp only [N_lit, N_add]
        exact hn)
      nS 0 M0 (by omega) (by
        rcases hst with ⟨yz, p, y1, y2⟩ | ⟨w, y1, y2⟩
        · exact Or.inl ⟨FI.rf _, hs0, yz, p, fun _ => 0, y1, fun s hs => by omega, y2.im fun S ⟨z1, z2, z3⟩ => ⟨z1, z2, z3, fun s hs => by omega⟩⟩
        · exact Or.inr ⟨FI.rf _, hs0, w, y1, y2⟩)
    have f1 : FI (ocS P) M0 M1 := a1.elim (fun z => z.1) (fun z => z.1)
    have v7 : gi M1 P 7 = N nS := a1.elim (fun z => z.2.1) (fun z => z.2.1)
    refine ⟨M1, f1, fun Q hQ => a2 Q ⟨1, ?_⟩, v7, ?_⟩
    · unfold w_Reader_readSelectors_16
      have r2 : gr M1 9 0 = P := by rcases a1 with ⟨-, -, -, p, F, y1, -⟩ | ⟨-, -, w, y1, -⟩ <;> exact y1.1
      rw [r2, v7]
      exact ⟨yo9 (hY' M1 f1), po (hY' M1 f1) hP, fun _ => hQ, fun c => absurd (Int32.le_refl _) c⟩
    · rcases a1 with ⟨-, -, yz, p, G, y1, y2, y3⟩ | ⟨-, -, w, y1, y2⟩
      · refine Or.inl ⟨yz, p, G, y1, y2, y3.st fun S hS => ⟨S, FI.rf S, hS, fun Q h => ⟨1, ?_⟩⟩⟩
        unfold w_Mod_takeApart_67
        rw [hS.2.2.1]
        exact ⟨yo159 (hBn M1 S hS.2.1).1, fun _ => h, fun c => absurd (Int32.le_refl _) c⟩
      · exact Or.inr ⟨w, y1, y2⟩
  have w54 : ∀ S Q, Y L xs S → w_Mod_next 159 (N 0) (N 8) S (fun v10 M9 => e_ob M9 159 12 ∧ ∀ M11 : eM, M11 = e_si M9 159 15 v10 → ∃ n12 : Nat, w_Mod_takeApart_67 n12 159 0 M11 Q) → w_Mod_takeApart_54 159 S Q := fun S Q hS h => ⟨yo159 hS, h⟩
  rcases hin with ⟨hZ, p, hR, hM⟩ | ⟨w, hR, hM⟩
  · have r1 := hR.1
    by_cases h1 : p < len ∧ b p ≤ 8
    · obtain ⟨M1, a1, a2, a3, a4⟩ := loop (e_si (e_si M 9 1 (N (p + 1))) P 7 (N (b p))) ((hY.si (a := 9) (by omega)).si (by omega)) (b p) h1.2 (by rw [gd (by omega), gd (by omega)]; exact hn) (by rw [gs]) (Or.inl ⟨hZ, p + 1, (hR.si1 hP h1.1).si (by omega) (by omega) (by omega), hM.st fun S ⟨hO, hB⟩ => by
        have hS := (hBn M S hB).1
        have fS : FI omL S (e_si (e_si S 159 81 (N (p + 1))) 159 15 (N (b p))) := FI.si (FI.si (FI.rf S) (by unfold omL; omega)) (by unfold omL; omega)
        refine ⟨_, fS.up (fun a j z => by unfold omL at z; unfold oM; omega), ⟨(hO.si1 h1.1).fi (o := fun a j => a = 159 ∧ j = 15) (FI.si (FI.rf _) ⟨rfl, rfl⟩) (by omega) (by omega) (by omega) (by omega), hBm _ _ _ (hBc M _ S hB (FI.si (FI.si (FI.rf M) (by unfold ocS; omega)) (by unfold ocS; omega))) fS, by rw [gs]⟩, fun Q h => w54 S Q hS (m_next hS hO (by omega) (by omega) (fun _ _ _ => ⟨yo159 (hS.si (a := 159) (by omega)), fun M6 e => ?_⟩) (fun c => absurd ⟨h1.1, by omega, h1.2⟩ c))⟩
        subst e; exact h⟩)
      refine ⟨M1, FI.t2 (FI.si (FI.si (FI.rf M) (by unfold ocS; omega)) (by unfold ocS; omega)) a1, fun Q hQ => ?_, b p, h1.2, a3, a4⟩
      unfold w_Reader_readSelectors
      rw [r1]
      refine ⟨yo9 hY, yo9 hY, r_take (lo := 0) (hi := 8) hY hP hR (by omega) (by omega) (fun _ _ _ _ => ⟨po (hY.si (a := 9) (by omega)) hP, fun M3 e => ?_⟩) (fun c => absurd ⟨h1.1, by omega, h1.2⟩ c)⟩
      subst e
      exact a2 Q hQ
    · obtain ⟨M1, a1, a2, a3, a4⟩ := loop (e_si (e_si M 9 2 (N p)) P 7 (N 0)) ((hY.si (a := 9) (by omega)).si (by omega)) 0 (by omega) (by rw [gd (by omega), gd (by omega)]; exact hn) (by rw [gs]) (Or.inr ⟨p, hR.wr.si (by omega), hM.st fun S ⟨hO, hB⟩ => by
        have hS := (hBn M S hB).1
        have hB1 : MB p (e_si (e_si S 159 82 1) 159 15 0) := hO.wr.fi (o := fun a j => a = 159 ∧ j = 15) (FI.si (FI.rf _) ⟨rfl, rfl⟩) (by omega) (by omega)
        have hY1 : Y L xs (e_si (e_si S 159 82 1) 159 15 0) := (hS.si (a := 159) (by omega)).si (by omega)
        refine ⟨_, FI.si (FI.si (FI.rf S) (by unfold oM; omega)) (by unfold oM; omega), ⟨hY1, hB1⟩, fun Q h => w54 S Q hS (m_next hS hO (by omega) (by omega) (fun c1 c2 c3 => absurd ⟨c1, c3⟩ h1) (fun _ => ⟨yo159 (hS.si (a := 159) (by omega)), fun M6 e => ?_⟩))⟩
        subst e; exact ⟨1, m_67B hY1 hB1 h⟩⟩)
      refine ⟨M1, FI.t2 (FI.si (FI.si (FI.rf M) (by unfold ocS; omega)) (by unfold ocS; omega)) a1, fun Q hQ => ?_, 0, by omega, a3, a4⟩
      unfold w_Reader_readSelectors
      rw [r1]
      refine ⟨yo9 hY, yo9 hY, r_take (lo := 0) (hi := 8) hY hP hR (by omega) (by omega) (fun c1 c2 c3 _ => absurd ⟨c1, c3⟩ h1) (fun _ => ⟨po (hY.si (a := 9) (by omega)) hP, fun M3 e => ?_⟩)⟩
      subst e
      exact a2 Q hQ
  · obtain ⟨M1, a1, a2, a3, a4⟩ := loop (e_si M P 7 (N 0)) (hY.si (by omega)) 0 (by omega) (by rw [gd (by omega)]; exact hn) (by rw [gs]) (Or.inr ⟨w, hR.si (by omega), hM.st fun S ⟨hS, hB⟩ => by
      have hB1 : MB w (e_si S 159 15 0) := hB.fi (o := fun a j => a = 159 ∧ j = 15) (FI.si (FI.rf _) ⟨rfl, rfl⟩) (by omega) (by omega)
      have hY1 : Y L xs (e_si S 159 15 0) := hS.si (by omega)
      refine ⟨_, FI.si (FI.rf S) (by unfold oM; omega), ⟨hY1, hB1⟩, fun Q h => w54 S Q hS (m_nextB hS hB ⟨yo159 hS, fun M6 e => ?_⟩)⟩
      subst e; exact ⟨1, m_67B hY1 hB1 h⟩⟩)
    refine ⟨M1, FI.t2 (FI.si (FI.rf M) (by unfold ocS; omega)) a1, fun Q hQ => ?_, 0, by omega, a3, a4⟩
    unfold w_Reader_readSelectors
    rw [hR.1]
    refine ⟨yo9 hY, yo9 hY, r_takeW hY hR ⟨po hY hP, fun M3 e => ?_⟩⟩
    subst e
    exact a2 Q hQ
