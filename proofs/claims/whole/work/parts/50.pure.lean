theorem c_cp {L xs P k q inh M} (hP : PP P) (hk : k < 8) (hq : q ≤ k) (hi : inh ≤ 8) (h0 : q = 0 → inh = 0) (hY : Y L xs M) (hr : gr M 9 0 = P) : ∃ M1, FI (fun a j => a = P + 5 ∧ k * 8 ≤ j ∧ j < k * 8 + 8) M M1 ∧ (∀ f, f < inh → gi M1 (P + 5) (k * 8 + f) = gi M (P + 5) ((q - 1) * 8 + f)) ∧ ∀ x : (eM → Prop) × (Nat → Int32 → eM → Prop), w_Reader_take 9 (N 0) (N (min 4 (8 - inh))) M1 (fun v M10 => ∃ n, w_Reader_readClasses_161 n 9 (N k) (N inh + v) (N inh) M10 x.1 x.2) → ∃ n, w_Reader_readClasses_99 n 9 (N k) (N q - N 1) (N inh) (N 0) M x.1 x.2 := by
  have ex : ∀ M1 v (x : (eM → Prop) × (Nat → Int32 → eM → Prop)), e_ob M1 9 7 → w_Reader_take 9 (N 0) (N (min 4 (8 - inh))) M1 (fun v M10 => ∃ n, w_Reader_readClasses_161 n 9 (N k) (N inh + v) (N inh) M10 x.1 x.2) → w_Reader_readClasses_99 1 9 (N k) v (N inh) (N inh) M1 x.1 x.2 := by
    intro M1 v x ho h
    unfold w_Reader_readClasses_99
    refine ⟨fun _ => ⟨ho, ?_⟩, fun c => absurd (Int32.le_refl _) c⟩
    have e : (if 8 - N inh < 4 then 8 - N inh else 4) = N (min 4 (8 - inh)) := by
      simp (disch := omega) only [N_lit, N_sub, N_lt]
      by_cases c : 8 - inh < 4
      · rw [if_pos c, show min 4 (8 - inh) = 8 - inh by omega]
      · rw [if_neg c, show min 4 (8 - inh) = 4 by omega]
    rw [e]; exact h
  by_cases c : q = 0
  · have := h0 c
    subst this
    subst c
    exact ⟨M, FI.rf M, fun f z => by omega, fun x h => ⟨1, ex M _ x (yo9 hY) h⟩⟩
  · obtain ⟨M1, a1, a2, a3⟩ := c_copy (inh := inh) (q := q - 1) hP hk (by omega) hi hY hr
    have e2 : N q - N 1 = N (q - 1) := N_sub (by omega)
    rw [e2]
    exact ⟨M1, a1, a2, fun x h => a3 x ⟨1, ex M1 _ x (yo9 (a1.Y (fun a j ha => by omega) hY)) h⟩⟩
theorem m_cp {L xs k q own inh S} (hk : k < 8) (hq : q ≤ k) (hi : inh ≤ 8) (h0 : q = 0 → inh = 0) (hY : Y L xs S) : ∃ S1, FI (fun a j => a = 165 ∧ k * 8 ≤ j ∧ j < k * 8 + 8) S S1 ∧ (∀ f, f < inh → gi S1 165 (k * 8 + f) = gi S 165 ((q - 1) * 8 + f)) ∧ ∀ Q : eM → Prop, (∃ n, w_Mod_readClass_112 n 159 (N k) (N inh) own (N inh) S1 Q) → ∃ n, w_Mod_readClass_71 n 159 (N k) (N q) (N inh) own (N 0) S Q := by
  have ex : ∀ S1 v (Q : eM → Prop), (∃ n, w_Mod_readClass_112 n 159 (N k) (N inh) own (N inh) S1 Q) → w_Mod_readClass_71 1 159 (N k) v (N inh) own (N inh) S1 Q := by
    intro S1 v Q h
    unfold w_Mod_readClass_71
    exact ⟨fun _ => h, fun c => absurd (Int32.le_refl _) c⟩
  by_cases c : q = 0
  · have := h0 c
    subst this
    subst c
    exact ⟨S, FI.rf S, fun f z => by omega, fun Q h => ⟨1, ex S _ Q h⟩⟩
  · obtain ⟨S1, a1, a2, a3⟩ := m_copy (own := own) (inh := inh) (q := q - 1) hk (by omega) hi hY
    rw [show q - 1 + 1 = q by omega] at a3
    exact ⟨S1, a1, a2, fun Q h => a3 Q ⟨1, ex S1 _ Q h⟩⟩
theorem msk_lt {F : eF} {k q : Nat} (hk : k < 8) (h : q ≠ 0 → F 4 (q - 1) < 256) : mskF F k q < 256 := by
  unfold mskF
  apply Nat.or_lt_two_pow (n := 8)
  · exact Nat.pow_lt_pow_right (by omega) hk
  · by_cases c : q = 0
    · rw [if_pos c]; decide
    · rw [if_neg c]; exact h c
theorem l_class {L xs P k p len b nC F M} (hP : PP P) (hkn : k < nC) (hC : nC ≤ 8) (hY : Y L xs M) (hn : gi M P 2 = N nC) (hR : RO P p len b M) (hF : CW nC k P F M) :
    ∃ M', FI (oc2 P k) M M' ∧ (∃ q, q ≤ k ∧ gi M' (P + 2) k = N q - N 1) ∧ (∀ n Q, w_Reader_readClasses_16 n 9 (N (k + 1)) M' Q → w_Reader_readClasses_16 (n + 1) 9 (N k) M Q) ∧
    ((∃ p' F', RO P p' len b M' ∧ CW nC (k + 1) P F' M' ∧ MP oM (fun S (Q : eM → Prop) => w_Mod_readClass 159 (N k) S Q) (fun S => (Y L xs S ∧ gi S 159 11 = N nC) ∧ MO p len b S ∧ EqC k P F M S) (fun S => (Y L xs S ∧ gi S 159 11 = N nC) ∧ MO p' len b S ∧ EqC (k + 1) P F' M' S) (fun S Q => Q S))
    ∨ (∃ w, RW P w M' ∧ MP oM (fun S (Q : eM → Prop) => w_Mod_readClass 159 (N k) S Q) (fun S => (Y L xs S ∧ gi S 159 11 = N nC) ∧ MO p len b S ∧ EqC k P F M S) (fun S => Y L xs S ∧ MB w S) (fun S Q => Q S))) := by
  have hg := hP.ge
  have hk : k < 8 := by omega
  have r1 := hR.1
  have w16 : ∀ n Q, (w_Reader_take 9 (N 0) (N k) M (fun v6 M5 => (¬ (v6 - 1) = (-1) → e_ob M5 9 7 ∧ e_ob M5 (gr M5 9 0) 6 ∧ e_ai M5 (gr M5 (gr M5 9 0) 5) (v6 - 1) ∧ w_Reader_readClasses_54 9 (N k) (v6 - 1) (gi M5 (gr M5 (gr M5 9 0) 5) (v6 - 1).toNatClampNeg) M5 Q (fun l0 l1 M => w_Reader_readClasses_16 n l0 l1 M Q)) ∧ ((v6 - 1) = (-1) → w_Reader_readClasses_54 9 (N k) (v6 - 1) 0 M5 Q (fun l0 l1 M => w_Reader_readClasses_16 n l0 l1 M Q)))) → w_Reader_readClasses_16 (n + 1) 9 (N k) M Q := by
    intro n Q h
    unfold w_Reader_readClasses_16
    rw [r1, hn, N_le (by omega) (by omega)]
    exact ⟨yo9 hY, po hY hP, fun c => absurd c (by omega), fun _ => ⟨yo9 hY, h⟩⟩
  by_cases h1 : p < len ∧ b p ≤ k
  · obtain ⟨hp, hq⟩ := h1
    generalize hqq : b p = q at hq
    have hi : inhF F q ≤ 8 := by
      unfold inhF
      by_cases c : q = 0
      · rw [if_pos c]; omega
      · rw [if_neg c]; exact (hF (q - 1) (by omega)).2.2.2.1.2.2.2
    have hi0 : q = 0 → inhF F q = 0 := fun c => by unfold inhF; rw [if_pos c]
    have hpar : ∀ f, f < inhF F q → q ≠ 0 ∧ f < F 164 (q - 1) := by
      intro f z
      unfold inhF at z
      by_cases c : q = 0
      · rw [if_pos c] at z; omega
      · rw [if_neg c] at z; exact ⟨c, z⟩
    have hm : mskF F k q < 256 := msk_lt hk (fun c => (hF (q - 1) (by omega)).2.2.2.1.2.1)
    have hR1 := hR.si1 hP hp
    have hY1 : Y L xs (e_si M 9 1 (N (p + 1))) := hY.si (by omega)
    have hY3 : Y L xs (e_si (e_si (e_si M 9 1 (N (p + 1))) (P + 2) k (N q - N 1)) (P + 3) k (N (mskF F k q))) := (hY1.si (by omega)).si (by omega)
    have f3 : FI (oc2 P k) M (e_si (e_si (e_si M 9 1 (N (p + 1))) (P + 2) k (N q - N 1)) (P + 3) k (N (mskF F k q))) := FI.si (FI.si (FI.si (FI.rf M) (by unfold oc2; omega)) (by unfold oc2; omega)) (by unfold oc2; omega)
    obtain ⟨M4, a1, a2, a3⟩ := c_cp (inh := inhF F q) hP hk hq hi hi0 hY3 r1
    have hY4 : Y L xs M4 := a1.Y (fun a j ha => by omega) hY3
    have hR4 : RO P (p + 1) len b M4 := ((hR1.si (by omega) (by omega) (by omega)).si (by omega) (by omega) (by omega)).fi a1 (by omega) (by omega) (by omega) (by omega)
    have f4 : FI (oc2 P k) M M4 := FI.t2 f3 (a1.up (fun a j z => by unfold oc2; omega))
    have v4 : ∀ f, f < inhF F q → gi M4 (P + 5) (k * 8 + f) = gi M (P + 5) ((q - 1) * 8 + f) := by
      intro f z
      have := hpar f z
      have := (hF (q - 1) (by omega)).2.2.2.1.2.2.2
      rw [a2 f z, gd (by omega), gd (by omega), gd (by omega)]
    have v42 : gi M4 (P + 2) k = N q - N 1 := by rw [a1.gi (by omega), gd (by omega), gs]
    have v43 : gi M4 (P + 3) k = N (mskF F k q) := by rw [a1.gi (by omega), gs]
    have reach : ∀ n Q, w_Reader_take 9 (N 0) (N (min 4 (8 - inhF F q))) M4 (fun v M10 => ∃ n', w_Reader_readClasses_161 n' 9 (N k) (N (inhF F q) + v) (N (inhF F q)) M10 Q (fun l0 l1 M => w_Reader_readClasses_16 n l0 l1 M Q)) → w_Reader_readClasses_16 (n + 1) 9 (N k) M Q := by
      intro n Q h
      refine w16 n Q (r_take (lo := 0) (hi := k) hY hP hR (by omega) (by omega) (fun _ _ _ _ => ?_) (fun z => absurd ⟨hp, by omega, by omega⟩ z))
      rw [hqq]
      exact c_head hP hk hq hF hY1 r1 (fun j => gd (by omega)) (fun j => gd (by omega)) (a3 (Q, _) h)
    by_cases h2 : p + 1 < len ∧ b (p + 1) ≤ min 4 (8 - inhF F q)
    · obtain ⟨hp2, ho⟩ := h2
      generalize how : b (p + 1) = own at ho
      have hfl : inhF F q + own ≤ 8 := by omega
      have hY5 : Y L xs (e_si M4 9 1 (N (p + 1 + 1))) := hY4.si (by omega)
      have hR5 := hR4.si1 hP hp2
      have n5 : gi (e_si M4 9 1 (N (p + 1 + 1))) P 2 = N nC := by rw [gd (by omega), f4.gi (by unfold oc2; omega)]; exact hn
      obtain ⟨M6, b1, b2, b3⟩ := l_own (W0 := fun S (Q : eM → Prop) => w_Mod_readClass 159 (N k) S Q) (J := fun S => (Y L xs S ∧ gi S 159 11 = N nC) ∧ MO p len b S ∧ EqC k P F M S) (C := fun S => (Y L xs S ∧ gi S 159 11 = N nC) ∧ EqC k P F M S ∧ gi S 163 k = N q - N 1 ∧ gi S 164 k = N (inhF F q + own) ∧ ∀ f, f < inhF F q → gi S 165 (k * 8 + f) = gi M (P + 5) ((q - 1) * 8 + f)) (inh := inhF F q) (fl := inhF F q + own) hP hk hfl (by omega) hC
        (fun S S' ⟨⟨z1, z2⟩, z3, z4, z5, z6⟩ hf => ⟨⟨z1.fm hf, by rw [hf.gi (by unfold om1; omega)]; exact z2⟩, fun c hc => ⟨by rw [hf.gi (by unfold om1; omega)]; exact (z3 c hc).1, by rw [hf.gi (by unfold om1; omega)]; exact (z3 c hc).2.1, fun f hff => by
            have := (hF c hc).2.2.2.1.2.2.2
            rw [hf.gi (by unfold om1; omega)]; exact (z3 c hc).2.2 f hff⟩, by rw [hf.gi (by unfold om1; omega)]; exact z4, by rw [hf.gi (by unfold om1; omega)]; exact z5, fun f hff => by rw [hf.gi (by unfold om1; omega)]; exact z6 f hff⟩)
        (fun S z => z.1) hY5 n5 hR5
        (fun S ⟨⟨z1, z2⟩, z3, z4⟩ => by
          have s1 : Y L xs (e_si (e_si (e_si (e_si S 159 81 (N (p + 1))) 163 k (N q - N 1)) 159 81 (N (p + 1 + 1))) 164 k (N (inhF F q + own))) := (((z1.si (a := 159) (by omega)).si (a := 163) (by omega)).si (a := 159) (by omega)).si (by omega)
          obtain ⟨S1, e1, e2, e3⟩ := m_cp (own := N own) (inh := inhF F q) hk hq hi hi0 s1
          have fS : FI oM S S1 := FI.t2 (FI.si (FI.si (FI.si (FI.si (FI.rf S) (by unfold oM; omega)) (by unfold oM; omega)) (by unfold oM; omega)) (by unfold oM; omega)) (e1.up (fun a j z => by unfold oM; omega))
          refine ⟨S1, fS, ⟨?_, ⟨⟨e1.Y (fun a j ha => by omega) s1, ?_⟩, fun c hc => ⟨?_, ?_, fun f hff => ?_⟩, ?_, ?_, fun f hff => ?_⟩⟩, fun Q hQ => ?_⟩
          · refine MO.fi (o := fun a j => a = 165 ∨ a = 164) (MO.si1 (MO.fi (o := fun a _ => a = 163) (z3.si1 hp) (FI.si (FI.rf _) rfl) (by omega) (by omega) (by omega) (by omega)) hp2) (FI.t2 (FI.si (FI.rf _) (Or.inr rfl)) (e1.up (fun a j z => Or.inl z.1))) (by omega) (by omega) (by omega) (by omega)
          · rw [e1.gi (by omega), gd (by omega), gd (by omega), gd (by omega), gd (by omega)]; exact z2
          · rw [e1.gi (by omega), gd (by omega), gd (by omega), gd (by omega), gd (by omega)]; exact (z4 c hc).1
          · rw [e1.gi (by omega), gd (by omega), gd (by omega), gd (by omega), gd (by omega)]; exact (z4 c hc).2.1
          · have := (hF c hc).2.2.2.1.2.2.2
            rw [e1.gi (by omega), gd (by omega), gd (by omega), gd (by omega), gd (by omega)]; exact (z4 c hc).2.2 f hff
          · rw [e1.gi (by omega), gd (by omega), gd (by omega), gs]
          · rw [e1.gi (by omega), gs]
          · have hh := hpar f hff
            rw [e2 f hff, gd (by omega), gd (by omega), gd (by omega), gd (by omega)]; exact (z4 (q - 1) (by omega)).2.2 f hh.2
          · rw [show inhF F q + own - inhF F q = own by omega] at hQ
            refine m_head hk hq hF z4 z1 z3 hp hqq (m_next (lo := 0) (hi := min 4 (8 - inhF F q)) ((z1.si (a := 159) (by omega)).si (by omega)) (MO.fi (o := fun a _ => a = 163) (z3.si1 hp) (FI.si (FI.rf _) rfl) (by omega) (by omega) (by omega) (by omega)) (by omega) (by omega) (fun _ _ _ => ?_) (fun z => absurd ⟨hp2, by omega, by omega⟩ z))
            rw [how]
            simp (disch := omega) only [ob_si, gr_si, ar_si, yo159 z1, yr159_13 z1, ya164 z1, true_and, N_in, N_nat, forall_eq, N_add]
            exact ⟨by omega, e3 Q hQ⟩)
      refine ⟨e_si M6 (P + 4) k (N (inhF F q + own)), FI.si (FI.t2 (FI.si f4 (by unfold oc2; omega)) (b1.up (fun a j z => by unfold oc1 at z; unfold oc2; omega))) (by unfold oc2; omega), ⟨q, hq, by rw [gd (by omega), b1.gi (by unfold oc1; omega), gd (by omega)]; exact v42⟩, fun n Q hn' => ?_, ?_⟩
      · refine reach n Q (r_take (lo := 0) (hi := min 4 (8 - inhF F q)) hY4 hP hR4 (by omega) (by omega) (fun _ _ _ _ => ?_) (fun z => absurd ⟨hp2, by omega, by omega⟩ z))
        rw [how, N_add]
        refine b2 (Q, _) ⟨1, ?_⟩
        have hY6 : Y L xs M6 := b1.Y (fun a j ha => by unfold oc1; omega) hY5
        have r6 : gr M6 9 0 = P := by rw [b1.gr]; exact hR5.1
        unfold w_Reader_readClasses_161
        simp (disch := omega) only [N_lit, N_le, r6, yo9 hY6, po hY6 hP, true_and, pr5 hY6 hP, pa4 hY6 hP, N_in, N_nat, forall_eq, N_add]
        exact ⟨fun _ => ⟨by omega, hn'⟩, fun c => absurd (Nat.le_refl _) c⟩
      · have u2 : ∀ j, gi M6 (P + 2) j = gi M4 (P + 2) j := fun j => by rw [b1.gi (by unfold oc1; omega), gd (by omega)]
        have u3 : ∀ j, gi M6 (P + 3) j = gi M4 (P + 3) j := fun j => by rw [b1.gi (by unfold oc1; omega), gd (by omega)]
        have u4 : ∀ j, gi M6 (P + 4) j = gi M4 (P + 4) j := fun j => by rw [b1.gi (by unfold oc1; omega), gd (by omega)]
        have u5 : ∀ j, j < k * 8 + inhF F q → gi M6 (P + 5) j = gi M4 (P + 5) j := fun j hj => by rw [b1.gi (by unfold oc1; omega), gd (by omega)]
        rcases b3 with ⟨p', d1, d2, d3⟩ | ⟨w, d1, d2⟩
        · refine Or.inl ⟨p', fun a j => if j = k then (if a = 163 then q else if a = 4 then mskF F k q else if a = 164 then inhF F q + own else F a j) else F a j, d1.si (by omega) (by omega) (by omega), fun c hc => ?_, d3.im fun S ⟨z1, ⟨z2, z3, z4, z5, z6⟩, z7⟩ => ⟨z2, z1, fun c hc => ?_⟩⟩
          · by_cases e : c = k
            · subst e
              simp only [if_true, if_false, show ¬ (4 = 163) by decide, show ¬ (164 = 163) by decide, show ¬ (164 = 4) by decide]
              refine ⟨by rw [gd (by omega), u2]; exact v42, by rw [gd (by omega), u3]; exact v43, by rw [gs], ⟨hq, hm, ?_, hfl⟩, fun f hff => ?_⟩
              · unfold mskF
                by_cases c0 : q = 0
                · rw [if_pos c0, if_pos c0]
                · rw [if_neg c0, if_neg c0, if_neg (by omega)]
              · rw [gd (by omega)]
                by_cases e : f < inhF F q
                · rw [u5 _ (by omega), v4 f e]
                  have hh := hpar f e
                  exact (hF (q - 1) (by omega)).2.2.2.2 f hh.2
                · exact d2 f (by omega) hff
            · have hc' : c < k := by omega
              obtain ⟨g1, g2, g3, g4, g5⟩ := hF c hc'
              simp only [if_neg e]
              refine ⟨?_, ?_, ?_, ⟨g4.1, g4.2.1, ?_, g4.2.2.2⟩, fun f hff => ?_⟩
              · rw [gd (by omega), u2, f4.gi (by unfold oc2; omega)]; exact g1
              · rw [gd (by omega), u3, f4.gi (by unfold oc2; omega)]; exact g2
              · rw [gd (by omega), u4, f4.gi (by unfold oc2; omega)]; exact g3
              · have hne : ¬ (F 163 c - 1 = k) := by omega
                simp only [if_neg hne]; exact g4.2.2.1
              · have := g4.2.2.2
                rw [gd (by omega), u5 _ (by omega), f4.gi (by unfold oc2; omega)]; exact g5 f hff
          · by_cases e : c = k
            · subst e
              simp only [if_true, if_false, show ¬ (164 = 163) by decide, show ¬ (164 = 4) by decide]
              refine ⟨z4, z5, fun f hff => ?_⟩
              rw [gd (by omega)]
              by_cases e : f < inhF F q
              · rw [z6 f e, u5 _ (by omega), v4 f e]
              · exact z7 f (by omega) hff
            · have hc' : c < k := by omega
              simp only [if_neg e]
              refine ⟨(z3 c hc').1, (z3 c hc').2.1, fun f hff => ?_⟩
              have := (hF c hc').2.2.2.1.2.2.2
              rw [(z3 c hc').2.2 f hff, gd (by omega), u5 _ (by omega), f4.gi (by unfold oc2; omega)]
        · exact Or.inr ⟨w, d1.si (by omega), d2⟩
    · have hR5 := hR4.wr
      have hY5 : Y L xs (e_si M4 9 2 (N (p + 1))) := hY4.si (by omega)
      refine ⟨e_si (e_si M4 9 2 (N (p + 1))) (P + 4) k (N (inhF F q + 0)), FI.si (FI.si f4 (by unfold oc2; omega)) (by unfold oc2; omega), ⟨q, hq, by rw [gd (by omega), gd (by omega)]; exact v42⟩, fun n Q hn' => ?_, Or.inr ⟨p + 1, hR5.si (by omega), fun S ⟨⟨z1, z2⟩, z3, z4⟩ => ?_⟩⟩
      · refine reach n Q (r_take (lo := 0) (hi := min 4 (8 - inhF F q)) hY4 hP hR4 (by omega) (by omega) (fun y1 y2 y3 _ => absurd ⟨y1, y3⟩ h2) (fun _ => ⟨1, ?_⟩))
        unfold w_Reader_readClasses_161
        simp (disch := omega) only [N_lit, N_le, hR5.1, yo9 hY5, po hY5 hP, true_and, pr5 hY5 hP, pa4 hY5 hP, N_in, N_nat, forall_eq, N_add]
        exact ⟨fun _ => ⟨by omega, hn'⟩, fun c => absurd (Nat.le_refl _) c⟩
      · have s1 : Y L xs (e_si (e_si (e_si (e_si S 159 81 (N (p + 1))) 163 k (N q - N 1)) 159 82 1) 164 k (N (inhF F q + 0))) := (((z1.si (a := 159) (by omega)).si (a := 163) (by omega)).si (a := 159) (by omega)).si (by omega)
        obtain ⟨S1, e1, e2, e3⟩ := m_cp (own := N 0) (inh := inhF F q) hk hq hi hi0 s1
        refine ⟨S1, FI.t2 (FI.si (FI.si (FI.si (FI.si (FI.rf S) (by unfold oM; omega)) (by unfold oM; omega)) (by unfold oM; omega)) (by unfold oM; omega)) (e1.up (fun a j z => by unfold oM; omega)), ⟨e1.Y (fun a j ha => by omega) s1, MB.fi (o := fun a j => a = 165 ∨ a = 164) (MO.wr (MO.fi (o := fun a _ => a = 163) (z3.si1 hp) (FI.si (FI.rf _) rfl) (by omega) (by omega) (by omega) (by omega))) (FI.t2 (FI.si (FI.rf _) (Or.inr rfl)) (e1.up (fun a j z => Or.inl z.1))) (by omega) (by omega)⟩, fun Q hQ => ?_⟩
        refine m_head hk hq hF z4 z1 z3 hp hqq (m_next (lo := 0) (hi := min 4 (8 - inhF F q)) ((z1.si (a := 159) (by omega)).si (by omega)) (MO.fi (o := fun a _ => a = 163) (z3.si1 hp) (FI.si (FI.rf _) rfl) (by omega) (by omega) (by omega) (by omega)) (by omega) (by omega) (fun y1 y2 y3 => absurd ⟨y1, y3⟩ h2) (fun _ => ?_))
        simp (disch := omega) only [N_lit, ob_si, gr_si, ar_si, yo159 z1, yr159_13 z1, ya164 z1, true_and, N_in, N_nat, forall_eq, N_add]
        refine ⟨by omega, e3 Q ⟨1, ?_⟩⟩
        unfold w_Mod_readClass_112
        simp (disch := omega) only [N_le, N_add]
        exact ⟨fun _ => hQ, fun c => absurd (Nat.le_refl _) c⟩
  · refine ⟨e_si (e_si (e_si (e_si M 9 2 (N p)) (P + 2) k (N 0 - N 1)) (P + 3) k (N (2 ^ k))) (P + 4) k (N 0), FI.si (FI.si (FI.si (FI.si (FI.rf M) (by unfold oc2; omega)) (by unfold oc2; omega)) (by unfold oc2; omega)) (by unfold oc2; omega), ⟨0, by omega, by rw [gd (by omega), gd (by omega), gs]⟩, fun n Q hn' => ?_, Or.inr ⟨p, ((hR.wr.si (by omega)).si (by omega)).si (by omega), fun S ⟨⟨z1, z2⟩, z3, z4⟩ => ?_⟩⟩
    · refine w16 n Q (r_take (lo := 0) (hi := k) hY hP hR (by omega) (by omega) (fun y1 y2 y3 _ => absurd ⟨y1, y3⟩ h1) (fun _ => ⟨fun z => absurd rfl z, fun _ => ?_⟩))
      exact c_tail0 hP hk (hY.si (by omega)) hR.wr hn'
    · have s0 : Y L xs (e_si S 159 82 1) := z1.si (by omega)
      have s1 : Y L xs (e_si (e_si S 159 82 1) 163 k (0 - 1)) := s0.si (by omega)
      refine ⟨e_si (e_si (e_si S 159 82 1) 163 k (0 - 1)) 164 k (0 + 0), FI.si (FI.si (FI.si (FI.rf S) (by unfold oM; omega)) (by unfold oM; omega)) (by unfold oM; omega), ⟨s1.si (by omega), MB.fi (o := fun a j => a = 163 ∨ a = 164) z3.wr (FI.si (FI.si (FI.rf _) (Or.inl rfl)) (Or.inr rfl)) (by omega) (by omega)⟩, fun Q hQ => ?_⟩
      unfold w_Mod_readClass
      refine ⟨yo159 z1, m_next (lo := 0) (hi := k) z1 z3 (by omega) (by omega) (fun y1 y2 y3 => absurd ⟨y1, y3⟩ h1) (fun _ => ?_)⟩
      simp (disch := omega) only [ob_si, gr_si, ar_si, yo159 z1, yr159_12 z1, ya163 z1, true_and, N_in, N_nat, forall_eq, not_true, false_imp_iff, true_imp_iff]
      refine ⟨by omega, ?_⟩
      unfold w_Mod_readClass_32 w_Mod_readClass_53
      refine ⟨fun _ => ⟨yo159 s1, m_nextB s1 (MB.fi (o := fun a j => a = 163) z3.wr (FI.si (FI.rf _) rfl) (by omega) (by omega)) ?_⟩, fun c => absurd (by decide) c⟩
      simp (disch := omega) only [ob_si, gr_si, ar_si, yo159 z1, yr159_13 z1, ya164 z1, true_and, N_in, N_nat, forall_eq]
      refine ⟨by omega, 1, ?_⟩
      unfold w_Mod_readClass_71
      refine ⟨fun _ => ⟨1, ?_⟩, fun c => absurd (by decide) c⟩
      unfold w_Mod_readClass_112
      exact ⟨fun _ => hQ, fun c => absurd (by decide) c⟩
