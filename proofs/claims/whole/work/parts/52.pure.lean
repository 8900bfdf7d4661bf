/-! ===== pure: shapes ===== -/
/-- the cell of a shape of the program at P -/
def SH (P c : Nat) : Prop := (∃ s, s < 8 ∧ c = P + 7 + 2 * s) ∨ (∃ m, m < 16 ∧ c = P + 24 + 2 * m)
theorem SH.ge {P c : Nat} (h : SH P c) : P + 7 ≤ c ∧ c + 1 ≤ P + 55 := by rcases h with ⟨s, hs, rfl⟩ | ⟨s, hs, rfl⟩ <;> omega
theorem SH.o {L xs M P c} (h : SH P c) (hP : PP P) (hY : Y L xs M) : e_ob M c 8 := by
  rcases h with ⟨s, hs, rfl⟩ | ⟨s, hs, rfl⟩
  · exact pso hY hP hs
  · exact pmo hY hP hs
theorem SH.t {L xs M P c} (h : SH P c) (hP : PP P) (hY : Y L xs M) : gr M c 0 = c + 1 := by
  rcases h with ⟨s, hs, rfl⟩ | ⟨s, hs, rfl⟩
  · rw [pst hY hP hs]; omega
  · rw [pmt hY hP hs]; omega
theorem SH.a {L xs M P c} (h : SH P c) (hP : PP P) (hY : Y L xs M) (i : Int32) : e_ar M (c + 1) 20 i ↔ vp_in i 4 := by
  rcases h with ⟨s, hs, rfl⟩ | ⟨s, hs, rfl⟩
  · rw [← psa hY hP hs i, show P + 7 + 2 * s + 1 = P + 8 + 2 * s by omega]
  · rw [← pma hY hP hs i, show P + 24 + 2 * s + 1 = P + 25 + 2 * s by omega]
abbrev oS (Sh : Nat) : Nat → Nat → Prop := fun a j => a = 9 ∨ (a = Sh ∧ (j = 1 ∨ j = 2)) ∨ (a = Sh + 1 ∧ j < 4)
abbrev omS (cp ct cr k st : Nat) : Nat → Nat → Prop := fun a j => (a = 159 ∧ (j = 81 ∨ j = 82)) ∨ (a = cp ∧ j = k) ∨ (a = cr ∧ j = k) ∨ (a = ct ∧ st * k ≤ j ∧ j < st * k + st)
/-- types of parameters, class and model in step -/
theorem l_types {X : Type} {L xs P Sh len b nC np p0 M0 cp ct cr st k} {W0 : eM → X → Prop} {J C : eM → Prop} {Wm : Nat → Nat → eM → X → Prop} (hP : PP P) (hS : SH P Sh) (hnp : np ≤ 4) (hst : np ≤ st) (hC : nC ≤ 8)
    (hct : ct ≠ 159 ∧ ct ≠ 161 ∧ 163 ≤ ct ∧ ct ≤ 175) (hWm : ∀ n i S x, Y L xs S → gi S cp k = N np → i < np → w_Mod_type 159 0 S (fun v M8 => e_ar M8 ct 20 (N (st * k + i)) ∧ ∀ M10 : eM, M10 = e_si M8 ct (st * k + i) v → Wm n (i + 1) M10 x) → Wm (n + 1) i S x)
    (har : ∀ S, Y L xs S → ∀ i, i < st → e_ar S ct 20 (N (st * k + i))) (hcc : cp ≠ ct ∧ cp ≠ 159 ∧ cp ≠ cr)
    (hCs : ∀ S S', C S → FI (omS cp ct cr k st) S S' → C S') (hCn : ∀ S, C S → Y L xs S ∧ gi S 159 11 = N nC) (hY0 : Y L xs M0) (hn0 : gi M0 P 2 = N nC) (hp0 : gi M0 Sh 1 = N np)
    (hst0 : RO P p0 len b M0 ∧ MP oM W0 J (fun S => MO p0 len b S ∧ C S ∧ gi S cp k = N np) (fun S x => ∃ n, Wm n 0 S x)) :
    ∃ M1, FI (fun a j => a = 9 ∨ (a = Sh + 1 ∧ j < 4)) M0 M1 ∧ (∀ Q : eM → Prop, (∃ n, w_Reader_readShape_12 n 9 Sh (N np) M1 Q) → ∃ n, w_Reader_readShape_12 n 9 Sh (N 0) M0 Q) ∧
    ((∃ p', p0 ≤ p' ∧ RO P p' len b M1 ∧ (∀ i, i < np → tyv nC 1 (gi M1 (Sh + 1) i)) ∧ MP oM W0 J (fun S => MO p' len b S ∧ C S ∧ gi S cp k = N np ∧ ∀ i, i < np → gi S ct (st * k + i) = gi M1 (Sh + 1) i) (fun S x => ∃ n, Wm n np S x))
    ∨ (∃ w, RW P w M1 ∧ MP oM W0 J (fun S => C S ∧ gi S cp k = N np ∧ MB w S) (fun S x => ∃ n, Wm n np S x))) := by
  have hg := hP.ge
  have hs := hS.ge
  have hY' : ∀ M, FI (fun a j => a = 9 ∨ (a = Sh + 1 ∧ j < 4)) M0 M → Y L xs M := fun M h => h.Y (fun a j ha => by omega) hY0
  obtain ⟨M1, a1, a2⟩ := lpE (W := fun n i M (Q : eM → Prop) => w_Reader_readShape_12 n 9 Sh (N i) M Q)
    (I := fun i M => FI (fun a j => a = 9 ∨ (a = Sh + 1 ∧ j < 4)) M0 M ∧ ∃ p, p0 ≤ p ∧ RO P p len b M ∧ (∀ i', i' < i → tyv nC 1 (gi M (Sh + 1) i')) ∧ MP oM W0 J (fun S => MO p len b S ∧ C S ∧ gi S cp k = N np ∧ ∀ i', i' < i → gi S ct (st * k + i') = gi M (Sh + 1) i') (fun S x => ∃ n, Wm n i S x))
    (E := fun i M => FI (fun a j => a = 9 ∨ (a = Sh + 1 ∧ j < 4)) M0 M ∧ ∃ w, RW P w M ∧ MP oM W0 J (fun S => C S ∧ gi S cp k = N np ∧ MB w S) (fun S x => ∃ n, Wm n i S x)) (hi := np)
    (fun i M hi ⟨q1, p, q0, q2, q3, q4⟩ => by
      have hY := hY' M q1
      have r1 := q2.1
      have hn : gi M P 2 = N nC := by rw [q1.gi (by omega)]; exact hn0
      have hp : gi M Sh 1 = N np := by rw [q1.gi (by omega)]; exact hp0
      by_cases hok : p < len ∧ vt nC 1 (b p)
      · refine ⟨e_si (e_si M 9 1 (N (p + 1))) (Sh + 1) i (N (b p)), Or.inl ⟨FI.si (FI.si q1 (by omega)) (by omega), p + 1, by omega, (q2.si1 hP hok.1).si (by omega) (by omega) (by omega), fun i' z => ?_, q4.st fun S ⟨hO, hc, hcp, he⟩ => ?_⟩, fun n Q hn' => ?_⟩
        · by_cases e : i' = i
          · subst e; rw [gs]; exact ⟨_, rfl, hok.2⟩
          · rw [gd (by omega), gd (by omega)]; exact q3 i' (by omega)
        · obtain ⟨hS', hSn⟩ := hCn S hc
          have fS : FI (omS cp ct cr k st) S (e_si (e_si S 159 81 (N (p + 1))) ct (st * k + i) (N (b p))) := FI.si (FI.si (FI.rf S) (by unfold omS; omega)) (by unfold omS; omega)
          refine ⟨_, FI.si (FI.si (FI.rf S) (by unfold oM; omega)) (by unfold oM; omega), ⟨(hO.si1 hok.1).fi (o := fun a _ => a = ct) (FI.si (FI.rf _) rfl) (by omega) (by omega) (by omega) (by omega), hCs _ _ hc fS, ?_, fun i' z => ?_⟩, fun Q hQ => ?_⟩
          · rw [gd (by omega), gd (by omega)]; exact hcp
          · by_cases e : i' = i
            · subst e; rw [gs, gs]
            · rw [gd (by omega), gd (by omega), gd (by omega), gd (by omega)]; exact he i' (by omega)
          · obtain ⟨n, hn⟩ := hQ
            refine ⟨n + 1, hWm n i S Q hS' hcp hi (m_type hS' hO (Or.inr ⟨rfl, rfl⟩) hSn hC (fun _ _ => ⟨?_, fun M10 e => ?_⟩) (fun z => absurd hok z))⟩
            · rw [ar_si]; exact har S hS' i (by omega)
            · subst e; exact hn
        · unfold w_Reader_readShape_12
          simp (disch := omega) only [hp, N_le, hS.o hP hY, yo9 hY, true_and]
          refine ⟨fun c => absurd c (by omega), fun _ => r_typeO hY hP q2 (Or.inr rfl) hn hC hok ?_⟩
          simp (disch := omega) only [N_lit, hS.t hP hY, ar_si, hS.a hP hY, N_in, N_nat, forall_eq, N_add]
          exact ⟨by omega, hn'⟩
      · obtain ⟨v, M', x1, x2, x3⟩ := r_typeX hY hP q2 (Or.inr rfl) hn hC hok
        have hYM : Y L xs M' := x1.Y (fun a _ ha => by omega) hY
        refine ⟨e_si M' (Sh + 1) i v, Or.inr ⟨FI.si (FI.t2 q1 (x1.up (fun a j e => Or.inl e))) (by omega), p, x2.si (by omega), q4.st fun S ⟨hO, hc, hcp, he⟩ => ?_⟩, fun n Q hn' => ?_⟩
        · obtain ⟨hS', hSn⟩ := hCn S hc
          have fS : FI (omS cp ct cr k st) S (e_si (e_si S 159 82 1) ct (st * k + i) 0) := FI.si (FI.si (FI.rf S) (by unfold omS; omega)) (by unfold omS; omega)
          refine ⟨_, FI.si (FI.si (FI.rf S) (by unfold oM; omega)) (by unfold oM; omega), ⟨hCs _ _ hc fS, ?_, hO.wr.fi (o := fun a _ => a = ct) (FI.si (FI.rf _) rfl) (by omega) (by omega)⟩, fun Q hQ => ?_⟩
          · rw [gd (by omega), gd (by omega)]; exact hcp
          · obtain ⟨n, hn⟩ := hQ
            refine ⟨n + 1, hWm n i S Q hS' hcp hi (m_type hS' hO (Or.inr ⟨rfl, rfl⟩) hSn hC (fun z1 z2 => absurd ⟨z1, z2⟩ hok) (fun _ => ⟨?_, fun M10 e => ?_⟩))⟩
            · rw [ar_si]; exact har S hS' i (by omega)
            · subst e; exact hn
        · unfold w_Reader_readShape_12
          simp (disch := omega) only [hp, N_le, hS.o hP hY, yo9 hY, true_and]
          refine ⟨fun c => absurd c (by omega), fun _ => x3 _ ?_⟩
          simp (disch := omega) only [N_lit, hS.t hP hY, hS.a hP hYM, N_in, N_nat, forall_eq, N_add]
          exact ⟨by omega, hn'⟩)
    (fun i M hi ⟨q1, w, q2, q4⟩ => by
      have hY := hY' M q1
      have hp : gi M Sh 1 = N np := by rw [q1.gi (by omega)]; exact hp0
      refine ⟨e_si M (Sh + 1) i (N 1), ⟨FI.si q1 (by omega), w, q2.si (by omega), q4.st fun S ⟨hc, hcp, hB⟩ => ?_⟩, fun n Q hn' => ?_⟩
      · obtain ⟨hS', hSn⟩ := hCn S hc
        have fS : FI (omS cp ct cr k st) S (e_si S ct (st * k + i) 0) := FI.si (FI.rf S) (by unfold omS; omega)
        refine ⟨_, FI.si (FI.rf S) (by unfold oM; omega), ⟨hCs _ _ hc fS, ?_, hB.fi (o := fun a _ => a = ct) (FI.si (FI.rf _) rfl) (by omega) (by omega)⟩, fun Q hQ => ?_⟩
        · rw [gd (by omega)]; exact hcp
        · obtain ⟨n, hn⟩ := hQ
          refine ⟨n + 1, hWm n i S Q hS' hcp hi (m_typeB hS' hB ⟨har S hS' i (by omega), fun M10 e => ?_⟩)⟩
          subst e; exact hn
      · unfold w_Reader_readShape_12
        simp (disch := omega) only [hp, N_le, hS.o hP hY, yo9 hY, true_and]
        refine ⟨fun c => absurd c (by omega), fun _ => r_typeW hY hP q2 (Or.inr rfl) ?_⟩
        simp (disch := omega) only [N_lit, hS.t hP hY, hS.a hP hY, N_in, N_nat, forall_eq, N_add]
        exact ⟨by omega, hn'⟩)
    np 0 M0 (by omega) (by
      obtain ⟨y1, y2⟩ := hst0
      exact Or.inl ⟨FI.rf _, p0, Nat.le_refl _, y1, fun i' z => by omega, y2.im fun S ⟨z1, z2, z3⟩ => ⟨z1, z2, z3, fun i' z => by omega⟩⟩)
  exact ⟨M1, a1.elim (fun z => z.1) (fun z => z.1), a2, a1.elim (fun z => Or.inl z.2) (fun z => Or.inr z.2)⟩
/-- a shape behind a wrong byte -/
theorem c_shapeW {L xs P Sh w M Q most} (hP : PP P) (hS : SH P Sh) (hY : Y L xs M) (h : RW P w M) (hQ : Q (e_si (e_si M Sh 1 (N 0)) Sh 2 (N 0))) : w_Reader_readShape 9 Sh most M Q := by
  have hg := hP.ge
  have hs := hS.ge
  unfold w_Reader_readShape
  refine ⟨yo9 hY, r_takeW hY h ⟨hS.o hP hY, fun M3 e => ?_⟩⟩
  subst e
  refine ⟨1, ?_⟩
  unfold w_Reader_readShape_12
  have h1 : RW P w (e_si M Sh 1 (N 0)) := h.si (by omega)
  have hY1 : Y L xs (e_si M Sh 1 (N 0)) := hY.si (by omega)
  refine ⟨hS.o hP hY1, fun _ => ⟨yo9 hY1, r_typeW (lo := 0) hY1 hP h1 (Or.inl rfl) ⟨hS.o hP hY1, fun M7 e => ?_⟩⟩, fun c => absurd ?_ c⟩
  · subst e; exact hQ
  · show gi (e_si M Sh 1 (N 0)) Sh 1 ≤ N 0
    rw [gs]; exact Int32.le_refl _
