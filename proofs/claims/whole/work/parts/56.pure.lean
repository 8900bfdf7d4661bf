/-! ===== pure: a method, in step ===== -/
theorem m_mB3 {L xs k w S} (hk : k < 16) (hY : Y L xs S) (h : MB w S) : ∃ S', FI (omT k) S S' ∧ MB w S' ∧ ∀ Q : eM → Prop, Q S' → mS3 k Q S := by
  have hY1 : Y L xs (e_si S 174 k 0) := hY.si (by omega)
  obtain ⟨S1, a1, a2, a3⟩ := m_codeB (z := 0) (i := 0) hk (by omega) (by omega) hY1 (by rw [gs]; rfl) (h.fi (o := fun a _ => a = 174) (FI.si (FI.rf _) rfl) (by omega) (by omega))
  refine ⟨S1, FI.t2 (FI.si (FI.rf S) (by unfold omT; omega)) a1, a2, fun Q hQ => ⟨yo159 hY, yo159 hY, m_nextB hY h ?_⟩⟩
  simp (disch := omega) only [yr159_25 hY, ya174 hY, N_in, N_nat, forall_eq]
  exact ⟨by omega, a3 Q hQ⟩
theorem m_mB2 {L xs k w S} (hk : k < 16) (hY : Y L xs S) (h : MB w S) : ∃ S', FI (omT k) S S' ∧ MB w S' ∧ ∀ Q : eM → Prop, Q S' → mS2 k Q S := by
  obtain ⟨S1, a1, a2, a3⟩ := m_mB3 hk (S := e_si S 173 k 0) (hY.si (by omega)) (h.fi (o := fun a _ => a = 173) (FI.si (FI.rf _) rfl) (by omega) (by omega))
  refine ⟨S1, FI.t2 (FI.si (FI.rf S) (by unfold omT; omega)) a1, a2, fun Q hQ => ⟨yo159 hY, yo159 hY, m_nextB hY h ?_⟩⟩
  simp (disch := omega) only [yr159_24 hY, ya173 hY, N_in, N_nat, forall_eq]
  exact ⟨by omega, a3 Q hQ⟩
theorem m_mB1 {L xs k w S} (hk : k < 16) (hY : Y L xs S) (h : MB w S) : ∃ S', FI (omT k) S S' ∧ MB w S' ∧ ∀ Q : eM → Prop, Q S' → mS1 k Q S := by
  obtain ⟨S1, a1, a2, a3⟩ := m_mB2 hk (S := e_si S 172 k 0) (hY.si (by omega)) (h.fi (o := fun a _ => a = 172) (FI.si (FI.rf _) rfl) (by omega) (by omega))
  refine ⟨S1, FI.t2 (FI.si (FI.rf S) (by unfold omT; omega)) a1, a2, fun Q hQ => ?_⟩
  unfold mS1
  simp (disch := omega) only [yo159 hY, yr159_20 hY, yi169 hY, N_in, N_nat, true_and]
  refine ⟨by omega, m_nextB hY h ?_⟩
  simp (disch := omega) only [yr159_23 hY, ya172 hY, N_in, N_nat, forall_eq]
  exact ⟨by omega, a3 Q hQ⟩
abbrev oMt (Sh : Nat) : Nat → Nat → Prop := fun a _ => a = 9 ∨ a = Sh ∨ a = Sh + 1
abbrev omM (k : Nat) : Nat → Nat → Prop := fun a j => omS 169 170 171 k 4 a j ∨ omT k a j
theorem l_meth {L xs P k p len b nC M} {C : eM → Prop} (hP : PP P) (hk : k < 16) (hC : nC ≤ 8) (hCs : ∀ S S', C S → FI (omM k) S S' → C S') (hCn : ∀ S, C S → Y L xs S ∧ gi S 159 11 = N nC) (hY : Y L xs M) (hn : gi M P 2 = N nC) (hR : RO P p len b M) :
    ∃ M1, FI (oMt (P + 24 + 2 * k)) M M1 ∧ (∀ (Q : eM → Prop) (k16 : Nat → Int32 → eM → Prop), k16 9 (N (k + 1)) M1 → w_Reader_readShape 9 (P + 24 + 2 * k) (N 4) M (fun M5 => cS1 (P + 24 + 2 * k) (N k) Q k16 M5)) ∧
    ((∃ p' np lo mo z ca, (np ≤ 4 ∧ np ≤ lo ∧ lo ≤ 8 ∧ mo ≤ 8 ∧ 1 ≤ z ∧ z ≤ 120 ∧ ca + z = p' ∧ p ≤ ca ∧ p' ≤ len) ∧ (gi M1 (P + 24 + 2 * k) 1 = N np ∧ tyv nC 0 (gi M1 (P + 24 + 2 * k) 2) ∧ (∀ i, i < np → tyv nC 1 (gi M1 (P + 24 + 2 * k + 1) i)) ∧ gi M1 (P + 24 + 2 * k) 3 = N lo ∧ gi M1 (P + 24 + 2 * k) 4 = N mo ∧ gi M1 (P + 24 + 2 * k) 5 = N ca ∧ gi M1 (P + 24 + 2 * k) 6 = N z) ∧ RO P p' len b M1 ∧
      MP oM (fun S (Q : eM → Prop) => w_Mod_readMethod 159 (N k) S Q) (fun S => MO p len b S ∧ C S) (fun S => MO p' len b S ∧ C S ∧ gi S 169 k = N np ∧ gi S 171 k = gi M1 (P + 24 + 2 * k) 2 ∧ (∀ i, i < np → gi S 170 (4 * k + i) = gi M1 (P + 24 + 2 * k + 1) i) ∧ gi S 172 k = N lo ∧ gi S 173 k = N mo ∧ gi S 174 k = N z ∧ ∀ j, j < z → gi S 175 (120 * k + j) = N (b (ca + j))) (fun S Q => Q S))
    ∨ (∃ w, RW P w M1 ∧ MP oM (fun S (Q : eM → Prop) => w_Mod_readMethod 159 (N k) S Q) (fun S => MO p len b S ∧ C S) (fun S => C S ∧ MB w S) (fun S Q => Q S))) := by
  have hg := hP.ge
  have hSh : SH P (P + 24 + 2 * k) := Or.inr ⟨k, hk, rfl⟩
  have hs := hSh.ge
  obtain ⟨M1, a1, a2, a3⟩ := l_shape (W0 := fun S (Q : eM → Prop) => w_Mod_readMethod 159 (N k) S Q) (J := fun S => MO p len b S ∧ C S) (C := C) (Ws := fun S (Q : eM → Prop) => w_Mod_readMethod 159 (N k) S Q) (Wx := fun S Q => mS1 k Q S) (Wm := fun n i S (Q : eM → Prop) => w_Mod_readMethod_14 n 159 (N k) (N i) S Q) (most := 4) (st := 4) (k := k) (cp := 169) (ct := 170) (cr := 171) hP hSh (by omega) (by omega) hC (by omega) (by omega)
    (by
      intro np n i S x hnp hS hcp hi h
      show w_Mod_readMethod_14 (n + 1) 159 (N k) (N i) S x
      unfold w_Mod_readMethod_14
      simp (disch := omega) only [N_lit, yo159 hS, yr159_20 hS, yr159_21 hS, yr159_22 hS, yi169 hS, N_in, N_nat, true_and, hcp, N_le, N_mul, N_add]
      exact ⟨by omega, fun c => absurd c (by omega), fun _ => h⟩)
    (by
      intro S x hS h
      show w_Mod_readMethod 159 (N k) S x
      unfold w_Mod_readMethod
      simp (disch := omega) only [N_lit, yo159 hS, yr159_20 hS, N_nat, true_and]
      exact h)
    (by
      intro np S x hnp hS hcp h
      show w_Mod_readMethod_14 1 159 (N k) (N np) S x
      unfold w_Mod_readMethod_14
      refine ⟨yo159 hS, ?_, fun _ => ⟨yo159 hS, yo159 hS, ?_⟩, fun c => absurd ?_ c⟩
      · rw [yr159_20 hS, yi169 hS, N_in (by omega)]; omega
      · rw [yr159_22 hS, N_nat (by omega)]; exact h
      · rw [yr159_20 hS, N_nat (by omega), hcp]; exact Int32.le_refl _)
    (fun S hS i hi => by rw [ya170 hS, N_in (by omega)]; omega) (fun S hS => by rw [ya169 hS, N_in (by omega)]; omega) (fun S hS => by rw [ya171 hS, N_in (by omega)]; omega)
    (fun S S' z hf => hCs S S' z (hf.up (fun a j y => Or.inl y))) hCn hY hn hR MP.rf
  have hY1 : Y L xs M1 := a1.Y (fun a j ha => by unfold oS; omega) hY
  have f1 : FI (oMt (P + 24 + 2 * k)) M M1 := a1.up (fun a j z => by unfold oS at z; unfold oMt; omega)
  have oTt : ∀ {M M' : eM}, FI (oT (P + 24 + 2 * k)) M M' → FI (oMt (P + 24 + 2 * k)) M M' := fun h => h.up (fun a j z => by unfold oT at z; unfold oMt; omega)
  have hCt : ∀ S S', C S → FI (omT k) S S' → C S' := fun S S' z hf => hCs S S' z (hf.up (fun a j y => Or.inr y))
  have oTm : ∀ {S S' : eM}, FI (omT k) S S' → FI oM S S' := fun h => h.up (fun a j z => by unfold omT at z; unfold oM; omega)
  rcases a3 with ⟨p1, np, b0, b1, b2, b3, b4, b5, b6⟩ | ⟨w, b1, b2⟩
  · -- three reads
    have m1 : ∀ S x, Y L xs S → gi S 169 k = N np → w_Mod_next 159 (N np) (N 8) S (fun v9 M8 => e_ar M8 172 20 (N k) ∧ ∀ M10 : eM, M10 = e_si M8 172 k v9 → mS2 k x M10) → mS1 k x S := by
      intro S x hS hcp h
      unfold mS1
      simp (disch := omega) only [N_lit, yo159 hS, yr159_20 hS, yr159_23 hS, yi169 hS, N_in, N_nat, true_and, hcp]
      exact ⟨by omega, h⟩
    have m2 : ∀ S x, Y L xs S → w_Mod_next 159 (N 0) (N 8) S (fun v9 M8 => e_ar M8 173 20 (N k) ∧ ∀ M10 : eM, M10 = e_si M8 173 k v9 → mS3 k x M10) → mS2 k x S := by
      intro S x hS h
      unfold mS2
      simp (disch := omega) only [N_lit, yo159 hS, yr159_24 hS, N_nat, true_and]
      exact h
    have m3 : ∀ S x, Y L xs S → w_Mod_next 159 (N 1) (N 120) S (fun v9 M8 => e_ar M8 174 20 (N k) ∧ ∀ M10 : eM, M10 = e_si M8 174 k v9 → ∃ n, w_Mod_readMethod_102 n 159 (N k) 0 M10 x) → mS3 k x S := by
      intro S x hS h
      unfold mS3
      simp (disch := omega) only [N_lit, yo159 hS, yr159_25 hS, N_nat, true_and]
      exact h
    have ac : ∀ S, Y L xs S → e_ar S 172 20 (N k) ∧ e_ar S 173 20 (N k) ∧ e_ar S 174 20 (N k) := by
      intro S hS
      rw [ya172 hS, ya173 hS, ya174 hS, N_in (by omega)]; omega
    by_cases h1 : p1 < len ∧ np ≤ b p1 ∧ b p1 ≤ 8
    · have e1 : RO P (p1 + 1) len b (e_si (e_si M1 9 1 (N (p1 + 1))) (P + 24 + 2 * k) 3 (N (b p1))) := (b5.si1 hP h1.1).si (by omega) (by omega) (by omega)
      have hY2 : Y L xs (e_si (e_si M1 9 1 (N (p1 + 1))) (P + 24 + 2 * k) 3 (N (b p1))) := (hY1.si (a := 9) (by omega)).si (by omega)
      have c1 : ∀ Q k16, cS2 (P + 24 + 2 * k) (N k) Q k16 (e_si (e_si M1 9 1 (N (p1 + 1))) (P + 24 + 2 * k) 3 (N (b p1))) → cS1 (P + 24 + 2 * k) (N k) Q k16 M1 := by
        intro Q k16 h
        unfold cS1
        rw [b2]
        refine ⟨hSh.o hP hY1, yo9 hY1, r_take (hi := 8) hY1 hP b5 (by omega) (by omega) (fun _ _ _ _ => ⟨hSh.o hP (hY1.si (a := 9) (by omega)), fun M8 e => ?_⟩) (fun z => absurd h1 z)⟩
        subst e; exact h
      have b6' : MP oM (fun S (Q : eM → Prop) => w_Mod_readMethod 159 (N k) S Q) (fun S => MO p len b S ∧ C S) (fun S => MO (p1 + 1) len b S ∧ C S ∧ gi S 169 k = N np ∧ gi S 171 k = gi M1 (P + 24 + 2 * k) 2 ∧ (∀ i, i < np → gi S 170 (4 * k + i) = gi M1 (P + 24 + 2 * k + 1) i) ∧ gi S 172 k = N (b p1)) (fun S Q => mS2 k Q S) := b6.st fun S ⟨hO, hc, g1, g2, g3⟩ => by
        have hS := (hCn S hc).1
        have fS : FI (omT k) S (e_si (e_si S 159 81 (N (p1 + 1))) 172 k (N (b p1))) := FI.si (FI.si (FI.rf S) (by unfold omT; omega)) (by unfold omT; omega)
        refine ⟨_, oTm fS, ⟨(hO.si1 h1.1).fi (o := fun a _ => a = 172) (FI.si (FI.rf _) rfl) (by omega) (by omega) (by omega) (by omega), hCt _ _ hc fS, by rw [gd (by omega), gd (by omega)]; exact g1, by rw [gd (by omega), gd (by omega)]; exact g2, fun i hi => by rw [gd (by omega), gd (by omega)]; exact g3 i hi, by rw [gs]⟩, fun Q hQ => m1 S Q hS g1 (m_next hS hO (by omega) (by omega) (fun _ _ _ => ⟨(ac S hS).1, fun M10 e => ?_⟩) (fun z => absurd h1 z))⟩
        subst e; exact hQ
      by_cases h2 : p1 + 1 < len ∧ 0 ≤ b (p1 + 1) ∧ b (p1 + 1) ≤ 8
      · have e2 : RO P (p1 + 1 + 1) len b (e_si (e_si (e_si (e_si M1 9 1 (N (p1 + 1))) (P + 24 + 2 * k) 3 (N (b p1))) 9 1 (N (p1 + 1 + 1))) (P + 24 + 2 * k) 4 (N (b (p1 + 1)))) := (e1.si1 hP h2.1).si (by omega) (by omega) (by omega)
        have hY3 : Y L xs (e_si (e_si (e_si (e_si M1 9 1 (N (p1 + 1))) (P + 24 + 2 * k) 3 (N (b p1))) 9 1 (N (p1 + 1 + 1))) (P + 24 + 2 * k) 4 (N (b (p1 + 1)))) := (hY2.si (a := 9) (by omega)).si (by omega)
        generalize hM3 : e_si (e_si (e_si (e_si M1 9 1 (N (p1 + 1))) (P + 24 + 2 * k) 3 (N (b p1))) 9 1 (N (p1 + 1 + 1))) (P + 24 + 2 * k) 4 (N (b (p1 + 1))) = M3 at e2 hY3
        have f3 : FI (oMt (P + 24 + 2 * k)) M M3 := by
          rw [← hM3]
          exact FI.si (FI.si (FI.si (FI.si f1 (by unfold oMt; omega)) (by unfold oMt; omega)) (by unfold oMt; omega)) (by unfold oMt; omega)
        have c2 : ∀ Q k16, cS3 (P + 24 + 2 * k) (N k) Q k16 M3 → cS1 (P + 24 + 2 * k) (N k) Q k16 M1 := by
          intro Q k16 h
          refine c1 Q k16 ⟨yo9 hY2, r_take (lo := 0) (hi := 8) hY2 hP e1 (by omega) (by omega) (fun _ _ _ _ => ⟨hSh.o hP (hY2.si (a := 9) (by omega)), fun M8 e => ?_⟩) (fun z => absurd h2 z)⟩
          rw [e, hM3]; exact h
        have w1 : gi M3 (P + 24 + 2 * k) 1 = N np := by rw [← hM3, gd (by omega), gd (by omega), gd (by omega), gd (by omega)]; exact b2
        have w2 : gi M3 (P + 24 + 2 * k) 2 = gi M1 (P + 24 + 2 * k) 2 := by rw [← hM3, gd (by omega), gd (by omega), gd (by omega), gd (by omega)]
        have w3 : gi M3 (P + 24 + 2 * k) 3 = N (b p1) := by rw [← hM3, gd (by omega), gd (by omega), gs]
        have w4 : gi M3 (P + 24 + 2 * k) 4 = N (b (p1 + 1)) := by rw [← hM3, gs]
        have w5 : ∀ i, gi M3 (P + 24 + 2 * k + 1) i = gi M1 (P + 24 + 2 * k + 1) i := fun i => by rw [← hM3, gd (by omega), gd (by omega), gd (by omega), gd (by omega)]
        have b7 : MP oM (fun S (Q : eM → Prop) => w_Mod_readMethod 159 (N k) S Q) (fun S => MO p len b S ∧ C S) (fun S => MO (p1 + 1 + 1) len b S ∧ C S ∧ gi S 169 k = N np ∧ gi S 171 k = gi M1 (P + 24 + 2 * k) 2 ∧ (∀ i, i < np → gi S 170 (4 * k + i) = gi M1 (P + 24 + 2 * k + 1) i) ∧ gi S 172 k = N (b p1) ∧ gi S 173 k = N (b (p1 + 1))) (fun S Q => mS3 k Q S) := b6'.st fun S ⟨hO, hc, g1, g2, g3, g4⟩ => by
          have hS := (hCn S hc).1
          have fS : FI (omT k) S (e_si (e_si S 159 81 (N (p1 + 1 + 1))) 173 k (N (b (p1 + 1)))) := FI.si (FI.si (FI.rf S) (by unfold omT; omega)) (by unfold omT; omega)
          refine ⟨_, oTm fS, ⟨(hO.si1 h2.1).fi (o := fun a _ => a = 173) (FI.si (FI.rf _) rfl) (by omega) (by omega) (by omega) (by omega), hCt _ _ hc fS, by rw [gd (by omega), gd (by omega)]; exact g1, by rw [gd (by omega), gd (by omega)]; exact g2, fun i hi => by rw [gd (by omega), gd (by omega)]; exact g3 i hi, by rw [gd (by omega), gd (by omega)]; exact g4, by rw [gs]⟩, fun Q hQ => m2 S Q hS (m_next hS hO (by omega) (by omega) (fun _ _ _ => ⟨(ac S hS).2.1, fun M10 e => ?_⟩) (fun z => absurd h2 z))⟩
          subst e; exact hQ
        by_cases h3 : p1 + 1 + 1 < len ∧ 1 ≤ b (p1 + 1 + 1) ∧ b (p1 + 1 + 1) ≤ 120
        · generalize hz : b (p1 + 1 + 1) = z at h3
          have e3 : RO P (p1 + 1 + 1 + 1) len b (e_si (e_si (e_si M3 9 1 (N (p1 + 1 + 1 + 1))) (P + 24 + 2 * k) 6 (N z)) (P + 24 + 2 * k) 5 (N (p1 + 1 + 1 + 1))) := ((e2.si1 hP h3.1).si (by omega) (by omega) (by omega)).si (by omega) (by omega) (by omega)
          have hY4 : Y L xs (e_si (e_si M3 9 1 (N (p1 + 1 + 1 + 1))) (P + 24 + 2 * k) 6 (N z)) := (hY3.si (a := 9) (by omega)).si (by omega)
          have hY5 : Y L xs (e_si (e_si (e_si M3 9 1 (N (p1 + 1 + 1 + 1))) (P + 24 + 2 * k) 6 (N z)) (P + 24 + 2 * k) 5 (N (p1 + 1 + 1 + 1))) := hY4.si (by omega)
          have at4 : gi (e_si (e_si M3 9 1 (N (p1 + 1 + 1 + 1))) (P + 24 + 2 * k) 6 (N z)) 9 1 = N (p1 + 1 + 1 + 1) := by rw [gd (by omega), gs]
          generalize hM5 : e_si (e_si (e_si M3 9 1 (N (p1 + 1 + 1 + 1))) (P + 24 + 2 * k) 6 (N z)) (P + 24 + 2 * k) 5 (N (p1 + 1 + 1 + 1)) = M5 at e3 hY5
          have f5 : FI (oMt (P + 24 + 2 * k)) M M5 := by
            rw [← hM5]
            exact FI.si (FI.si (FI.si f3 (by unfold oMt; omega)) (by unfold oMt; omega)) (by unfold oMt; omega)
          have x6 : gi M5 (P + 24 + 2 * k) 6 = N z := by rw [← hM5, gd (by omega), gs]
          have x5 : gi M5 (P + 24 + 2 * k) 5 = N (p1 + 1 + 1 + 1) := by rw [← hM5, gs]
          have xo : ∀ a j, a ≠ 9 → (a = P + 24 + 2 * k → j ≠ 5 ∧ j ≠ 6) → gi M5 a j = gi M3 a j := fun a j q1 q2 => by rw [← hM5, gd (by omega), gd (by omega), gd (by omega)]
          have len15 := b5.2.2.2.2.2.1
          have c3 : ∀ (Q : eM → Prop) (k16 : Nat → Int32 → eM → Prop), (p1 + 1 + 1 + 1 + z ≤ len → k16 9 (N (k + 1)) (e_si M5 9 1 (N (p1 + 1 + 1 + 1 + z)))) → (¬ p1 + 1 + 1 + 1 + z ≤ len → k16 9 (N (k + 1)) (e_si (e_si M5 9 2 (N len)) 9 1 (N (p1 + 1 + 1 + 1 + z)))) → cS1 (P + 24 + 2 * k) (N k) Q k16 M1 := by
            intro Q k16 q1 q2
            refine c2 Q k16 ⟨yo9 hY3, r_take (lo := 1) (hi := 120) hY3 hP e2 (by omega) (by omega) (fun _ _ _ _ => ⟨hSh.o hP (hY3.si (a := 9) (by omega)), fun M8 e => ?_⟩) (fun y => absurd ⟨h3.1, by omega, by omega⟩ y)⟩
            rw [e, hz]
            refine ⟨yo9 hY4, hSh.o hP hY4, fun M15 e => ?_⟩
            rw [at4, hM5] at e
            rw [e, e3.2.2.1, e3.2.1, x6, e3.1, e3.2.2.2.1, N_add, N_le (by omega) (by omega)]
            refine ⟨yo9 hY5, fun c => absurd rfl c, fun _ => ⟨yo9 hY5, hSh.o hP hY5, yo9 hY5, po hY5 hP, fun c => ?_, fun c => ⟨yo9 hY5, po hY5 hP, yo9 hY5, fun M16 e => ?_⟩⟩⟩
            · refine ⟨yo9 hY5, hSh.o hP hY5, yo9 hY5, fun M17 e => ?_⟩
              rw [e3.2.1, x6, N_add] at e
              subst e
              simp only [N_lit, N_add]
              exact q1 c
            · subst e
              have hY6 : Y L xs (e_si M5 9 2 (N len)) := hY5.si (by omega)
              refine ⟨yo9 hY6, hSh.o hP hY6, yo9 hY6, fun M17 e => ?_⟩
              rw [gd (by omega), gd (by omega), e3.2.1, x6, N_add] at e
              subst e
              simp only [N_lit, N_add]
              exact q2 c
          have b8 := b7
          have m4 : ∀ S, (MO (p1 + 1 + 1) len b S ∧ C S ∧ gi S 169 k = N np ∧ gi S 171 k = gi M1 (P + 24 + 2 * k) 2 ∧ (∀ i, i < np → gi S 170 (4 * k + i) = gi M1 (P + 24 + 2 * k + 1) i) ∧ gi S 172 k = N (b p1) ∧ gi S 173 k = N (b (p1 + 1))) → FI (omT k) S (e_si (e_si S 159 81 (N (p1 + 1 + 1 + 1))) 174 k (N z)) ∧ Y L xs (e_si (e_si S 159 81 (N (p1 + 1 + 1 + 1))) 174 k (N z)) ∧ MO (p1 + 1 + 1 + 1) len b (e_si (e_si S 159 81 (N (p1 + 1 + 1 + 1))) 174 k (N z)) ∧ ∀ Q, (∃ n, w_Mod_readMethod_102 n 159 (N k) (N 0) (e_si (e_si S 159 81 (N (p1 + 1 + 1 + 1))) 174 k (N z)) Q) → mS3 k Q S := by
            intro S ⟨hO, hc, g1, g2, g3, g4, g5⟩
            have hS := (hCn S hc).1
            refine ⟨FI.si (FI.si (FI.rf S) (by unfold omT; omega)) (by unfold omT; omega), (hS.si (a := 159) (by omega)).si (by omega), (hO.si1 h3.1).fi (o := fun a _ => a = 174) (FI.si (FI.rf _) rfl) (by omega) (by omega) (by omega) (by omega), fun Q hQ => m3 S Q hS (m_next hS hO (by omega) (by omega) (fun _ _ _ => ⟨(ac S hS).2.2, fun M10 e => ?_⟩) (fun y => absurd ⟨h3.1, by omega, by omega⟩ y))⟩
            rw [e, hz]; exact hQ
          by_cases h4 : p1 + 1 + 1 + 1 + z ≤ len
          · refine ⟨e_si M5 9 1 (N (p1 + 1 + 1 + 1 + z)), FI.si f5 (by unfold oMt; omega), fun Q k16 hQ => a2 _ (c3 Q k16 (fun _ => hQ) (fun c => absurd h4 c)), Or.inl ⟨p1 + 1 + 1 + 1 + z, np, b p1, b (p1 + 1), z, p1 + 1 + 1 + 1, by omega, ⟨?_, ?_, fun i hi => ?_, ?_, ?_, ?_, ?_⟩, ?_, b8.st fun S hS => ?_⟩⟩
            · rw [gd (by omega), xo _ _ (by omega) (by omega)]; exact w1
            · rw [gd (by omega), xo _ _ (by omega) (by omega), w2]; exact b3
            · rw [gd (by omega), xo _ _ (by omega) (by omega), w5]; exact b4 i hi
            · rw [gd (by omega), xo _ _ (by omega) (by omega)]; exact w3
            · rw [gd (by omega), xo _ _ (by omega) (by omega)]; exact w4
            · rw [gd (by omega)]; exact x5
            · rw [gd (by omega)]; exact x6
            · obtain ⟨r1, r2, r3, r4, r5, r6, r7⟩ := e3
              exact ⟨r1, by rw [gs], by rw [gd (by omega)]; exact r3, by rw [gd (by omega)]; exact r4, by omega, r6, fun j hj => by rw [gd (by omega)]; exact r7 j hj⟩
            · obtain ⟨y1, y2, y3, y4⟩ := m4 S hS
              obtain ⟨hO, hc, g1, g2, g3, g4, g5⟩ := hS
              obtain ⟨S1, d1, d2, d3, d4, d5, d6, d7⟩ := (m_code (z := z) hk (by omega) y2 (by rw [gs]) y3).1 h4
              have fS : FI (omT k) S S1 := FI.t2 y1 d1
              refine ⟨S1, oTm fS, ⟨d2, hCt _ _ hc fS, ?_, ?_, fun i hi => ?_, ?_, ?_, d5, d6⟩, fun Q hQ => y4 Q (d7 Q hQ)⟩
              · rw [fS.gi (by unfold omT; omega)]; exact g1
              · rw [fS.gi (by unfold omT; omega), gd (by omega), xo _ _ (by omega) (by omega), w2]; exact g2
              · rw [fS.gi (by unfold omT; omega), gd (by omega), xo _ _ (by omega) (by omega), w5]; exact g3 i hi
              · rw [d3, gd (by omega), gd (by omega)]; exact g4
              · rw [d4, gd (by omega), gd (by omega)]; exact g5
          · refine ⟨e_si (e_si M5 9 2 (N len)) 9 1 (N (p1 + 1 + 1 + 1 + z)), FI.si (FI.si f5 (by unfold oMt; omega)) (by unfold oMt; omega), fun Q k16 hQ => a2 _ (c3 Q k16 (fun c => absurd c h4) (fun _ => hQ)), Or.inr ⟨len, ⟨e3.1, by rw [gd (by omega), gs], len15⟩, b8.st fun S hS => ?_⟩⟩
            obtain ⟨y1, y2, y3, y4⟩ := m4 S hS
            obtain ⟨S1, d1, d2, d7⟩ := (m_code (z := z) hk (by omega) y2 (by rw [gs]) y3).2 h4
            have fS : FI (omT k) S S1 := FI.t2 y1 d1
            exact ⟨S1, oTm fS, ⟨hCt _ _ hS.2.1 fS, d2⟩, fun Q hQ => y4 Q (d7 Q hQ)⟩
        · obtain ⟨M', x1, x2, x3⟩ := c_mW4 (m := k) hP hSh (M := e_si (e_si M3 9 2 (N (p1 + 1 + 1))) (P + 24 + 2 * k) 6 (N 1)) ((hY3.si (a := 9) (by omega)).si (by omega)) (e2.wr.si (by omega))
          refine ⟨M', FI.t2 (FI.si (FI.si f3 (by unfold oMt; omega)) (by unfold oMt; omega)) (oTt x1), fun Q k16 hQ => a2 _ (c2 Q k16 ⟨yo9 hY3, r_take (lo := 1) (hi := 120) hY3 hP e2 (by omega) (by omega) (fun y1 y2 y3 _ => absurd ⟨y1, y2, y3⟩ h3) (fun _ => ⟨hSh.o hP (hY3.si (a := 9) (by omega)), fun M8 e => ?_⟩)⟩), Or.inr ⟨p1 + 1 + 1, x2, b7.st fun S ⟨hO, hc, g1, g2, g3, g4, g5⟩ => ?_⟩⟩
          · subst e; exact x3 Q k16 hQ
          · have hS := (hCn S hc).1
            have hB := hO.wr
            have hYb : Y L xs (e_si (e_si S 159 82 1) 174 k 0) := (hS.si (a := 159) (by omega)).si (by omega)
            obtain ⟨S1, d1, d2, d3⟩ := m_codeB (z := 0) (i := 0) hk (by omega) (by omega) hYb (by rw [gs]; rfl) (hB.fi (o := fun a _ => a = 174) (FI.si (FI.rf _) rfl) (by omega) (by omega))
            have fS : FI (omT k) S S1 := FI.t2 (FI.si (FI.si (FI.rf S) (by unfold omT; omega)) (by unfold omT; omega)) d1
            refine ⟨S1, oTm fS, ⟨hCt _ _ hc fS, d2⟩, fun Q hQ => m3 S Q hS (m_next hS hO (by omega) (by omega) (fun y1 y2 y3 => absurd ⟨y1, y2, y3⟩ h3) (fun _ => ⟨(ac S hS).2.2, fun M10 e => ?_⟩))⟩
            subst e; exact d3 Q hQ
      · obtain ⟨M', x1, x2, x3⟩ := c_mW3 (m := k) hP hSh (M := e_si (e_si (e_si (e_si M1 9 1 (N (p1 + 1))) (P + 24 + 2 * k) 3 (N (b p1))) 9 2 (N (p1 + 1))) (P + 24 + 2 * k) 4 (N 0)) ((hY2.si (a := 9) (by omega)).si (by omega)) (e1.wr.si (by omega))
        refine ⟨M', FI.t2 (FI.si (FI.si (FI.si (FI.si f1 (by unfold oMt; omega)) (by unfold oMt; omega)) (by unfold oMt; omega)) (by unfold oMt; omega)) (oTt x1), fun Q k16 hQ => a2 _ (c1 Q k16 ⟨yo9 hY2, r_take (lo := 0) (hi := 8) hY2 hP e1 (by omega) (by omega) (fun y1 y2 y3 _ => absurd ⟨y1, y2, y3⟩ h2) (fun _ => ⟨hSh.o hP (hY2.si (a := 9) (by omega)), fun M8 e => ?_⟩)⟩), Or.inr ⟨p1 + 1, x2, b6'.st fun S ⟨hO, hc, g1, g2, g3, g4⟩ => ?_⟩⟩
        · subst e; exact x3 Q k16 hQ
        · have hS := (hCn S hc).1
          obtain ⟨S1, d1, d2, d3⟩ := m_mB3 hk (S := e_si (e_si S 159 82 1) 173 k 0) ((hS.si (a := 159) (by omega)).si (by omega)) (hO.wr.fi (o := fun a _ => a = 173) (FI.si (FI.rf _) rfl) (by omega) (by omega))
          have fS : FI (omT k) S S1 := FI.t2 (FI.si (FI.si (FI.rf S) (by unfold omT; omega)) (by unfold omT; omega)) d1
          refine ⟨S1, oTm fS, ⟨hCt _ _ hc fS, d2⟩, fun Q hQ => m2 S Q hS (m_next hS hO (by omega) (by omega) (fun y1 y2 y3 => absurd ⟨y1, y2, y3⟩ h2) (fun _ => ⟨(ac S hS).2.1, fun M10 e => ?_⟩))⟩
          subst e; exact d3 Q hQ
    · obtain ⟨M', x1, x2, x3⟩ := c_mW2 (m := k) hP hSh (M := e_si (e_si M1 9 2 (N p1)) (P + 24 + 2 * k) 3 (N np)) ((hY1.si (a := 9) (by omega)).si (by omega)) (b5.wr.si (by omega))
      refine ⟨M', FI.t2 (FI.si (FI.si f1 (by unfold oMt; omega)) (by unfold oMt; omega)) (oTt x1), fun Q k16 hQ => a2 _ ?_, Or.inr ⟨p1, x2, b6.st fun S ⟨hO, hc, g1, g2, g3⟩ => ?_⟩⟩
      · unfold cS1
        rw [b2]
        refine ⟨hSh.o hP hY1, yo9 hY1, r_take (hi := 8) hY1 hP b5 (by omega) (by omega) (fun y1 y2 y3 _ => absurd ⟨y1, y2, y3⟩ h1) (fun _ => ⟨hSh.o hP (hY1.si (a := 9) (by omega)), fun M8 e => ?_⟩)⟩
        subst e; exact x3 Q k16 hQ
      · have hS := (hCn S hc).1
        obtain ⟨S1, d1, d2, d3⟩ := m_mB2 hk (S := e_si (e_si S 159 82 1) 172 k 0) ((hS.si (a := 159) (by omega)).si (by omega)) (hO.wr.fi (o := fun a _ => a = 172) (FI.si (FI.rf _) rfl) (by omega) (by omega))
        have fS : FI (omT k) S S1 := FI.t2 (FI.si (FI.si (FI.rf S) (by unfold omT; omega)) (by unfold omT; omega)) d1
        refine ⟨S1, oTm fS, ⟨hCt _ _ hc fS, d2⟩, fun Q hQ => m1 S Q hS g1 (m_next hS hO (by omega) (by omega) (fun y1 y2 y3 => absurd ⟨y1, y2, y3⟩ h1) (fun _ => ⟨(ac S hS).1, fun M10 e => ?_⟩))⟩
        subst e; exact d3 Q hQ
  · obtain ⟨M', x1, x2, x3⟩ := c_mW1 (m := k) hP hSh hY1 b1
    refine ⟨M', FI.t2 f1 (oTt x1), fun Q k16 hQ => a2 _ (x3 Q k16 hQ), Or.inr ⟨w, x2, b2.st fun S ⟨hc, hB⟩ => ?_⟩⟩
    obtain ⟨S1, d1, d2, d3⟩ := m_mB1 hk (hCn S hc).1 hB
    exact ⟨S1, oTm d1, ⟨hCt _ _ hc d1, d2⟩, fun Q hQ => d3 Q hQ⟩
