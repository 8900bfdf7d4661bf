/-! ===== pure: reading the classes, class and model in step ===== -/
/-- what reading may change -/
abbrev oM (a j : Nat) : Prop := (a = 159 ∧ (j = 11 ∨ j = 15 ∨ j = 19 ∨ j = 81 ∨ j = 82)) ∨ (163 ≤ a ∧ a ≤ 175) ∨ a = 177
abbrev oc1 (P k lo : Nat) : Nat → Nat → Prop := fun a j => a = 9 ∨ (a = P + 5 ∧ k * 8 + lo ≤ j ∧ j < k * 8 + 8)
abbrev om1 (k lo : Nat) : Nat → Nat → Prop := fun a j => (a = 159 ∧ (j = 81 ∨ j = 82)) ∨ (a = 165 ∧ k * 8 + lo ≤ j ∧ j < k * 8 + 8)
/-- a type in a cell -/
def tyv (nC lo : Nat) (v : Int32) : Prop := ∃ t, v = N t ∧ vt nC lo t
theorem Y.fm {L xs S S'} {k lo : Nat} (hY : Y L xs S) (h : FI (om1 k lo) S S') : Y L xs S' := h.Y (fun a j ha => by unfold om1; omega) hY
/-- the model's own fields behind a wrong byte -/
theorem l_ownB {L xs k fl inh w} (hk : k < 8) (hfl : fl ≤ 8) (hif : inh ≤ fl) {f : Nat} {S : eM} (hf : f ≤ fl) (hi : inh ≤ f) (hY : Y L xs S) (h : MB w S) : ∃ S1, FI (om1 k inh) S S1 ∧ MB w S1 ∧ ∀ Q : eM → Prop, Q S1 → ∃ n, w_Mod_readClass_112 n 159 (N k) (N inh) (N (fl - inh)) (N f) S Q := by
  obtain ⟨S1, ⟨a1, a2, -⟩, a3⟩ := lpO (W := fun n f S Q => w_Mod_readClass_112 n 159 (N k) (N inh) (N (fl - inh)) (N f) S Q) (I := fun f S' => FI (om1 k inh) S S' ∧ MB w S' ∧ inh ≤ f) (hi := fl) (fun f S' hf ⟨h1, h2, h3⟩ => by
    have hY' := hY.fm h1
    refine ⟨e_si S' 165 (k * 8 + f) 0, ⟨FI.si h1 (by unfold om1; omega), h2.fi (o := fun a _ => a = 165) (FI.si (FI.rf _) rfl) (by omega) (by omega), by omega⟩, fun n Q hn => ?_⟩
    unfold w_Mod_readClass_112
    simp (disch := omega) only [N_le, N_add, yo159 hY', true_and]
    refine ⟨fun c => absurd c (by omega), fun _ => m_typeB hY' h2 ?_⟩
    simp (disch := omega) only [N_lit, yr159_14 hY', N_mul, N_add, ya165 hY', N_in, N_nat, forall_eq, Nat.mul_comm 8]
    exact ⟨by omega, hn⟩) (fl - f) f S (by omega) ⟨FI.rf S, h, hi⟩
  refine ⟨S1, a1, a2, fun Q hQ => a3 Q ⟨1, ?_⟩⟩
  unfold w_Mod_readClass_112
  simp (disch := omega) only [N_le, N_add]
  exact ⟨fun _ => hQ, fun c => absurd (by omega) c⟩
theorem l_own {L xs P k fl inh len b nC M0} {W0 : eM → (eM → Prop) → Prop} {J C : eM → Prop} (hP : PP P) (hk : k < 8) (hfl : fl ≤ 8) (hif : inh ≤ fl) (hC : nC ≤ 8) (hCs : ∀ S S', C S → FI (om1 k inh) S S' → C S') (hCn : ∀ S, C S → Y L xs S ∧ gi S 159 11 = N nC) (hY0 : Y L xs M0) (hn0 : gi M0 P 2 = N nC) {p : Nat} (hR : RO P p len b M0)
    (hM : MP oM W0 J (fun S => MO p len b S ∧ C S) (fun S Q => ∃ n, w_Mod_readClass_112 n 159 (N k) (N inh) (N (fl - inh)) (N inh) S Q)) :
    ∃ M1, FI (oc1 P k inh) M0 M1 ∧ (∀ x : (eM → Prop) × (Nat → Int32 → eM → Prop), (∃ n, w_Reader_readClasses_161 n 9 (N k) (N fl) (N fl) M1 x.1 x.2) → ∃ n, w_Reader_readClasses_161 n 9 (N k) (N fl) (N inh) M0 x.1 x.2) ∧
    ((∃ p', RO P p' len b M1 ∧ (∀ f', inh ≤ f' → f' < fl → tyv nC 1 (gi M1 (P + 5) (k * 8 + f'))) ∧ MP oM W0 J (fun S => MO p' len b S ∧ C S ∧ ∀ f', inh ≤ f' → f' < fl → gi S 165 (k * 8 + f') = gi M1 (P + 5) (k * 8 + f')) (fun S Q => Q S))
    ∨ (∃ w, RW P w M1 ∧ MP oM W0 J (fun S => Y L xs S ∧ MB w S) (fun S Q => Q S))) := by
  have hg := hP.ge
  have hY' : ∀ M, FI (oc1 P k inh) M0 M → Y L xs M := fun M h => h.Y (fun a j ha => by unfold oc1; omega) hY0
  have hmo : ∀ a j, om1 k inh a j → oM a j := by intro a j h; unfold om1 at h; unfold oM; omega
  obtain ⟨M1, a1, a2⟩ := lpE (W := fun n f M (x : (eM → Prop) × (Nat → Int32 → eM → Prop)) => w_Reader_readClasses_161 n 9 (N k) (N fl) (N f) M x.1 x.2)
    (I := fun f M => inh ≤ f ∧ FI (oc1 P k inh) M0 M ∧ ∃ p, RO P p len b M ∧ (∀ f', inh ≤ f' → f' < f → tyv nC 1 (gi M (P + 5) (k * 8 + f'))) ∧ MP oM W0 J (fun S => MO p len b S ∧ C S ∧ ∀ f', inh ≤ f' → f' < f → gi S 165 (k * 8 + f') = gi M (P + 5) (k * 8 + f')) (fun S Q => ∃ n, w_Mod_readClass_112 n 159 (N k) (N inh) (N (fl - inh)) (N f) S Q))
    (E := fun f M => inh ≤ f ∧ FI (oc1 P k inh) M0 M ∧ ∃ w, RW P w M ∧ MP oM W0 J (fun S => Y L xs S ∧ MB w S) (fun S Q => Q S)) (hi := fl)
    (fun f M hf ⟨q0, q1, p, q2, q3, q4⟩ => by
      have hY := hY' M q1
      have r1 := q2.1
      have hn : gi M P 2 = N nC := by rw [q1.gi (by unfold oc1; omega)]; exact hn0
      by_cases hok : p < len ∧ vt nC 1 (b p)
      · refine ⟨e_si (e_si M 9 1 (N (p + 1))) (P + 5) (k * 8 + f) (N (b p)), Or.inl ⟨by omega, FI.si (FI.si q1 (by unfold oc1; omega)) (by unfold oc1; omega), p + 1, (q2.si1 hP hok.1).si (by omega) (by omega) (by omega), fun f' z1 z2 => ?_, q4.st fun S ⟨hO, hc, he⟩ => ?_⟩, fun n x hn' => ?_⟩
        · rw [gi_si]
          by_cases e : f' = f
          · subst e; rw [if_pos ⟨rfl, rfl⟩]; exact ⟨_, rfl, hok.2⟩
          · rw [if_neg (by omega), gi_si, if_neg (by omega)]; exact q3 f' z1 (by omega)
        · obtain ⟨hS, hSn⟩ := hCn S hc
          have fS : FI (om1 k inh) S (e_si (e_si S 159 81 (N (p + 1))) 165 (k * 8 + f) (N (b p))) := FI.si (FI.si (FI.rf S) (by unfold om1; omega)) (by unfold om1; omega)
          refine ⟨_, fS.up hmo, ⟨(hO.si1 hok.1).fi (o := fun a _ => a = 165) (FI.si (FI.rf _) rfl) (by omega) (by omega) (by omega) (by omega), hCs _ _ hc fS, fun f' z1 z2 => ?_⟩, fun Q hQ => ?_⟩
          · by_cases e : f' = f
            · subst e; rw [gs, gs]
            · rw [gd (by omega), gd (by omega), gd (by omega), gd (by omega)]; exact he f' z1 (by omega)
          · obtain ⟨n, hn⟩ := hQ
            refine ⟨n + 1, ?_⟩
            unfold w_Mod_readClass_112
            simp (disch := omega) only [N_le, N_add, yo159 hS, true_and]
            refine ⟨fun c => absurd c (by omega), fun _ => m_type hS hO (Or.inr ⟨rfl, rfl⟩) hSn hC (fun _ _ => ?_) (fun z => absurd hok z)⟩
            simp (disch := omega) only [N_lit, yr159_14 hS, N_mul, N_add, ar_si, ya165 hS, N_in, N_nat, forall_eq, Nat.mul_comm 8]
            exact ⟨by omega, hn⟩
        · unfold w_Reader_readClasses_161
          simp (disch := omega) only [N_lit, N_le, r1, yo9 hY, po hY hP, true_and, pr6 hY hP, N_add, N_mul]
          refine ⟨fun c => absurd c (by omega), fun _ => r_typeO hY hP q2 (Or.inr rfl) hn hC hok ?_⟩
          simp (disch := omega) only [ar_si, pa5 hY hP, N_in, N_nat, forall_eq]
          exact ⟨by omega, hn'⟩
      · obtain ⟨v, M', x1, x2, x3⟩ := r_typeX hY hP q2 (Or.inr rfl) hn hC hok
        have hYM : Y L xs M' := x1.Y (fun a _ ha => by omega) hY
        refine ⟨e_si M' (P + 5) (k * 8 + f) v, Or.inr ⟨by omega, FI.si (FI.t2 q1 (x1.up (fun a j e => Or.inl e))) (by unfold oc1; omega), p, x2.si (by omega), q4.st fun S ⟨hO, hc, he⟩ => ?_⟩, fun n x hn' => ?_⟩
        · obtain ⟨hS, hSn⟩ := hCn S hc
          obtain ⟨S1, k1, k2, k3⟩ := l_ownB (w := p) (inh := inh) hk hfl hif (f := f + 1) (S := e_si (e_si S 159 82 1) 165 (k * 8 + f) 0) (by omega) (by omega) ((hS.si (a := 159) (by omega)).si (by omega)) ((hO.wr).fi (o := fun a _ => a = 165) (FI.si (FI.rf _) rfl) (by omega) (by omega))
          have fS : FI (om1 k inh) S S1 := FI.t2 (FI.si (FI.si (FI.rf S) (by unfold om1; omega)) (by unfold om1; omega)) k1
          refine ⟨S1, fS.up hmo, ⟨hS.fm fS, k2⟩, fun Q hQ => ?_⟩
          obtain ⟨n, hn⟩ := k3 Q hQ
          refine ⟨n + 1, ?_⟩
          unfold w_Mod_readClass_112
          simp (disch := omega) only [N_le, N_add, yo159 hS, true_and]
          refine ⟨fun c => absurd c (by omega), fun _ => m_type hS hO (Or.inr ⟨rfl, rfl⟩) hSn hC (fun z1 z2 => absurd ⟨z1, z2⟩ hok) (fun _ => ?_)⟩
          simp (disch := omega) only [N_lit, yr159_14 hS, N_mul, N_add, ar_si, ya165 hS, N_in, N_nat, forall_eq, Nat.mul_comm 8]
          exact ⟨by omega, hn⟩
        · unfold w_Reader_readClasses_161
          simp (disch := omega) only [N_lit, N_le, r1, yo9 hY, po hY hP, true_and, pr6 hY hP, N_add, N_mul]
          refine ⟨fun c => absurd c (by omega), fun _ => x3 _ ?_⟩
          simp (disch := omega) only [pa5 hYM hP, N_in, N_nat, forall_eq]
          exact ⟨by omega, hn'⟩)
    (fun f M hf ⟨q0, q1, w, q2, q4⟩ => by
      have hY := hY' M q1
      have r1 := q2.1
      refine ⟨e_si M (P + 5) (k * 8 + f) (N 1), ⟨by omega, FI.si q1 (by unfold oc1; omega), w, q2.si (by omega), q4⟩, fun n x hn' => ?_⟩
      unfold w_Reader_readClasses_161
      simp (disch := omega) only [N_lit, N_le, r1, yo9 hY, po hY hP, true_and, pr6 hY hP, N_add, N_mul]
      refine ⟨fun c => absurd c (by omega), fun _ => r_typeW hY hP q2 (Or.inr rfl) ?_⟩
      simp (disch := omega) only [pa5 hY hP, N_in, N_nat, forall_eq]
      exact ⟨by omega, hn'⟩)
    (fl - inh) inh M0 (by omega) (Or.inl ⟨Nat.le_refl _, FI.rf M0, p, hR, fun f' _ _ => by omega, hM.im fun S ⟨z1, z2⟩ => ⟨z1, z2, fun f' _ _ => by omega⟩⟩)
  refine ⟨M1, a1.elim (fun z => z.2.1) (fun z => z.2.1), a2, ?_⟩
  rcases a1 with ⟨-, -, p, q2, q3, q4⟩ | ⟨-, -, w, q2, q4⟩
  · refine Or.inl ⟨p, q2, q3, q4.st fun S z => ⟨S, FI.rf S, z, fun Q hQ => ⟨1, ?_⟩⟩⟩
    unfold w_Mod_readClass_112
    simp (disch := omega) only [N_le, N_add]
    exact ⟨fun _ => hQ, fun c => absurd (by omega) c⟩
  · exact Or.inr ⟨w, q2, q4⟩
