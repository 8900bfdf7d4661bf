/-! ===== pure: all classes ===== -/
/-- the model before it takes bytes apart -/
def MJ (L : Nat) (xs : Nat → Int32) (len : Nat) (b : Nat → Nat) (S : eM) : Prop := Y L xs S ∧ gi S 159 4 = N len ∧ len ≤ 1500 ∧ ∀ j, j < len → gi S 161 j = N (b j) ∧ b j < 256
abbrev oc3 (P : Nat) : Nat → Nat → Prop := fun a _ => a = 9 ∨ (P + 2 ≤ a ∧ a ≤ P + 5)
abbrev oR (P : Nat) : Nat → Nat → Prop := fun a j => a = 9 ∨ (a = P ∧ (j = 2 ∨ j = 7 ∨ j = 9)) ∨ (P + 2 ≤ a ∧ a ≤ P + 56)
abbrev Wt : eM → (Int32 → eM → Prop) → Prop := fun S Q => w_Mod_takeApart 159 S Q
theorem m_28 {L xs k nC S S' n Q} (hkn : k < nC) (hC : nC ≤ 8) (hY : Y L xs S) (hn : gi S 159 11 = N nC) (hb : gi S 159 82 = 0) (hr : ∀ Q : eM → Prop, Q S' → w_Mod_readClass 159 (N k) S Q) (h : w_Mod_takeApart_28 n 159 (N (k + 1)) S' Q) : w_Mod_takeApart_28 (n + 1) 159 (N k) S Q := by
  unfold w_Mod_takeApart_28
  rw [hn, hb, N_le (by omega) (by omega)]
  refine ⟨yo159 hY, fun c => absurd c (by omega), fun _ => ⟨yo159 hY, fun c => absurd rfl c, fun _ => ⟨yo159 hY, hr _ ?_⟩⟩⟩
  simp only [N_lit, N_add]
  exact h
theorem m_28B {L xs x w S Q} (hY : Y L xs S) (hb : MB w S) (h : w_Mod_takeApart_54 159 S Q) : w_Mod_takeApart_28 1 159 x S Q := by
  unfold w_Mod_takeApart_28
  refine ⟨yo159 hY, fun _ => h, fun _ => ⟨yo159 hY, fun _ => h, fun c => ?_⟩⟩
  rw [hb.2] at c
  exact absurd c (by decide)
theorem l_classes {L xs P len b M} (hP : PP P) (hY : Y L xs M) (hR : RO P 0 len b M) :
    ∃ M1, FI (fun a j => oc3 P a j ∨ (a = P ∧ j = 2)) M M1 ∧ (∀ Q : eM → Prop, Q M1 → w_Reader_readClasses 9 M Q) ∧ ∃ nC, nC ≤ 8 ∧ gi M1 P 2 = N nC ∧ (∀ c, c < nC → ∃ q, q ≤ c ∧ gi M1 (P + 2) c = N q - N 1) ∧
    ((∃ p F, RO P p len b M1 ∧ CW nC nC P F M1 ∧ MP oM Wt (MJ L xs len b) (fun S => (Y L xs S ∧ gi S 159 11 = N nC) ∧ MO p len b S ∧ EqC nC P F M1 S) (fun S Q => w_Mod_takeApart_54 159 S Q))
    ∨ (∃ w, RW P w M1 ∧ MP oM Wt (MJ L xs len b) (fun S => Y L xs S ∧ MB w S) (fun S Q => w_Mod_takeApart_54 159 S Q))) := by
  have hg := hP.ge
  have r1 := hR.1
  -- the loop, from a memory in which the count stands
  have loop : ∀ M0, Y L xs M0 → ∀ nC, nC ≤ 8 → gi M0 P 2 = N nC → ((∃ p F, RO P p len b M0 ∧ CW nC 0 P F M0 ∧ MP oM Wt (MJ L xs len b) (fun S => (Y L xs S ∧ gi S 159 11 = N nC) ∧ MO p len b S ∧ EqC 0 P F M0 S) (fun S Q => ∃ n, w_Mod_takeApart_28 n 159 (N 0) S Q)) ∨ (∃ w, RW P w M0 ∧ MP oM Wt (MJ L xs len b) (fun S => Y L xs S ∧ MB w S) (fun S Q => w_Mod_takeApart_54 159 S Q))) →
      ∃ M1, FI (oc3 P) M0 M1 ∧ (∀ Q : eM → Prop, Q M1 → ∃ n, w_Reader_readClasses_16 n 9 (N 0) M0 Q) ∧ gi M1 P 2 = N nC ∧ (∀ c, c < nC → ∃ q, q ≤ c ∧ gi M1 (P + 2) c = N q - N 1) ∧
      ((∃ p F, RO P p len b M1 ∧ CW nC nC P F M1 ∧ MP oM Wt (MJ L xs len b) (fun S => (Y L xs S ∧ gi S 159 11 = N nC) ∧ MO p len b S ∧ EqC nC P F M1 S) (fun S Q => w_Mod_takeApart_54 159 S Q))
      ∨ (∃ w, RW P w M1 ∧ MP oM Wt (MJ L xs len b) (fun S => Y L xs S ∧ MB w S) (fun S Q => w_Mod_takeApart_54 159 S Q))) := by
    intro M0 hY0 nC hC hn0 hst
    have hY' : ∀ M, FI (oc3 P) M0 M → Y L xs M := fun M h => h.Y (fun a j ha => by unfold oc3; omega) hY0
    have hn' : ∀ M, FI (oc3 P) M0 M → gi M P 2 = N nC := fun M h => by rw [h.gi (by unfold oc3; omega)]; exact hn0
    obtain ⟨M1, a1, a2⟩ := lpE (W := fun n k M (Q : eM → Prop) => w_Reader_readClasses_16 n 9 (N k) M Q)
      (I := fun k M => FI (oc3 P) M0 M ∧ (∀ c, c < k → ∃ q, q ≤ c ∧ gi M (P + 2) c = N q - N 1) ∧ ∃ p F, RO P p len b M ∧ CW nC k P F M ∧ MP oM Wt (MJ L xs len b) (fun S => (Y L xs S ∧ gi S 159 11 = N nC) ∧ MO p len b S ∧ EqC k P F M S) (fun S Q => ∃ n, w_Mod_takeApart_28 n 159 (N k) S Q))
      (E := fun k M => FI (oc3 P) M0 M ∧ (∀ c, c < k → ∃ q, q ≤ c ∧ gi M (P + 2) c = N q - N 1) ∧ ∃ w, RW P w M ∧ MP oM Wt (MJ L xs len b) (fun S => Y L xs S ∧ MB w S) (fun S Q => w_Mod_takeApart_54 159 S Q)) (hi := nC)
      (fun k M hk ⟨q1, q5, p, F, q2, q3, q4⟩ => by
        obtain ⟨M', b1, b5, b2, b3⟩ := l_class hP hk hC (hY' M q1) (hn' M q1) q2 q3
        have f1 : FI (oc3 P) M0 M' := FI.t2 q1 (b1.up (fun a j z => by unfold oc2 at z; unfold oc3; omega))
        have q5' : ∀ c, c < k + 1 → ∃ q, q ≤ c ∧ gi M' (P + 2) c = N q - N 1 := by
          intro c hc
          by_cases e : c = k
          · subst e; exact b5
          · obtain ⟨q, y1, y2⟩ := q5 c (by omega)
            exact ⟨q, y1, by rw [b1.gi (by unfold oc2; omega)]; exact y2⟩
        refine ⟨M', ?_, b2⟩
        rcases b3 with ⟨p', F', c1, c2, c3⟩ | ⟨w, c1, c2⟩
        · refine Or.inl ⟨f1, q5', p', F', c1, c2, q4.st fun S hS => ?_⟩
          obtain ⟨S', d1, d2, d3⟩ := c3 S hS
          refine ⟨S', d1, d2, fun Q ⟨n, hn⟩ => ⟨n + 1, m_28 hk hC hS.1.1 hS.1.2 hS.2.1.2.1 d3 hn⟩⟩
        · refine Or.inr ⟨f1, q5', w, c1, q4.st fun S hS => ?_⟩
          obtain ⟨S', d1, d2, d3⟩ := c2 S hS
          exact ⟨S', d1, d2, fun Q h => ⟨1 + 1, m_28 hk hC hS.1.1 hS.1.2 hS.2.1.2.1 d3 (m_28B d2.1 d2.2 h)⟩⟩)
      (fun k M hk ⟨q1, q5, w, q2, q4⟩ => by
        have hYM := hY' M q1
        refine ⟨e_si (e_si (e_si M (P + 2) k (N 0 - N 1)) (P + 3) k (N (2 ^ k))) (P + 4) k (N 0), ⟨FI.si (FI.si (FI.si q1 (by unfold oc3; omega)) (by unfold oc3; omega)) (by unfold oc3; omega), fun c hc => ?_, w, ((q2.si (by omega)).si (by omega)).si (by omega), q4⟩, fun n Q hn => ?_⟩
        · by_cases e : c = k
          · subst e; exact ⟨0, by omega, by rw [gd (by omega), gd (by omega), gs]⟩
          · obtain ⟨q, y1, y2⟩ := q5 c (by omega)
            exact ⟨q, y1, by rw [gd (by omega), gd (by omega), gd (by omega)]; exact y2⟩
        · unfold w_Reader_readClasses_16
          rw [q2.1, hn' M q1, N_le (by omega) (by omega)]
          refine ⟨yo9 hYM, po hYM hP, fun c => absurd c (by omega), fun _ => ⟨yo9 hYM, r_takeW hYM q2 ⟨fun z => absurd rfl z, fun _ => c_tail0 hP (by omega) hYM q2 ?_⟩⟩⟩
          exact hn)
      nC 0 M0 (by omega) (by
        rcases hst with ⟨p, F, y1, y2, y3⟩ | ⟨w, y1, y2⟩
        · exact Or.inl ⟨FI.rf _, fun c hc => by omega, p, F, y1, y2, y3⟩
        · exact Or.inr ⟨FI.rf _, fun c hc => by omega, w, y1, y2⟩)
    have f1 : FI (oc3 P) M0 M1 := a1.elim (fun z => z.1) (fun z => z.1)
    refine ⟨M1, f1, fun Q hQ => a2 Q ⟨1, ?_⟩, hn' M1 f1, a1.elim (fun z => z.2.1) (fun z => z.2.1), ?_⟩
    · unfold w_Reader_readClasses_16
      have r2 : gr M1 9 0 = P := by rcases a1 with ⟨-, -, p, F, y1, -⟩ | ⟨-, -, w, y1, -⟩ <;> exact y1.1
      rw [r2, hn' M1 f1]
      exact ⟨yo9 (hY' M1 f1), po (hY' M1 f1) hP, fun _ => hQ, fun c => absurd (Int32.le_refl _) c⟩
    · rcases a1 with ⟨-, -, p, F, y1, y2, y3⟩ | ⟨-, -, w, y1, y2⟩
      · refine Or.inl ⟨p, F, y1, y2, y3.st fun S hS => ⟨S, FI.rf S, hS, fun Q h => ⟨1, ?_⟩⟩⟩
        unfold w_Mod_takeApart_28
        rw [hS.1.2]
        exact ⟨yo159 hS.1.1, fun _ => h, fun c => absurd (Int32.le_refl _) c⟩
      · exact Or.inr ⟨w, y1, y2⟩
  have m0 : ∀ S, MJ L xs len b S → MO 0 len b (e_si (e_si (e_si S 159 81 0) 159 82 0) 159 11 0) := by
    intro S ⟨z1, z2, z3, z4⟩
    exact ⟨by rw [gd (by omega), gd (by omega), gs]; rfl, by rw [gd (by omega), gs], by rw [gd (by omega), gd (by omega), gd (by omega)]; exact z2, by omega, z3, fun j hj => by rw [gd (by omega), gd (by omega), gd (by omega)]; exact z4 j hj⟩
  have y0 : ∀ S, MJ L xs len b S → Y L xs (e_si (e_si (e_si S 159 81 0) 159 82 0) 159 11 0) := fun S z => ((z.1.si (a := 159) (by omega)).si (a := 159) (by omega)).si (by omega)
  have f0 : ∀ S, FI oM S (e_si (e_si (e_si S 159 81 0) 159 82 0) 159 11 0) := fun S => FI.si (FI.si (FI.si (FI.rf S) (by unfold oM; omega)) (by unfold oM; omega)) (by unfold oM; omega)
  have wt : ∀ S Q, MJ L xs len b S → w_Mod_next 159 (N 0) (N 8) (e_si (e_si (e_si S 159 81 0) 159 82 0) 159 11 0) (fun v5 M4 => e_ob M4 159 12 ∧ ∀ M6 : eM, M6 = e_si M4 159 11 v5 → ∃ n7 : Nat, w_Mod_takeApart_28 n7 159 0 M6 Q) → Wt S Q := by
    intro S Q z h
    show w_Mod_takeApart 159 S Q
    unfold w_Mod_takeApart
    refine ⟨yo159 z.1, fun M1 e1 => ?_⟩
    subst e1
    refine ⟨yo159 z.1, Or.inl rfl, fun M2 e2 => ?_⟩
    subst e2
    refine ⟨yo159 z.1, fun M3 e3 => ?_⟩
    subst e3
    exact ⟨yo159 z.1, h⟩
  by_cases h1 : 0 < len ∧ b 0 ≤ 8
  · obtain ⟨M1, a1, a2, a3, a4, a5⟩ := loop (e_si (e_si M 9 1 (N (0 + 1))) P 2 (N (b 0))) ((hY.si (a := 9) (by omega)).si (by omega)) (b 0) h1.2 (by rw [gs]) (Or.inl ⟨0 + 1, fun _ _ => 0, (hR.si1 hP h1.1).si (by omega) (by omega) (by omega), fun c hc => by omega, fun S z => ⟨e_si (e_si (e_si (e_si (e_si S 159 81 0) 159 82 0) 159 11 0) 159 81 (N (0 + 1))) 159 11 (N (b 0)), FI.si (FI.si (f0 S) (by unfold oM; omega)) (by unfold oM; omega), ⟨⟨((y0 S z).si (a := 159) (by omega)).si (by omega), by rw [gs]⟩, MO.fi (o := fun a j => a = 159 ∧ j = 11) ((m0 S z).si1 h1.1) (FI.si (FI.rf _) ⟨rfl, rfl⟩) (by omega) (by omega) (by omega) (by omega), fun c hc => by omega⟩, fun Q h => wt S Q z (m_next (y0 S z) (m0 S z) (by omega) (by omega) (fun _ _ _ => ⟨yo159 (y0 S z), fun M6 e => by subst e; exact h⟩) (fun c => absurd ⟨h1.1, by omega, h1.2⟩ c))⟩⟩)
    refine ⟨M1, FI.t2 (FI.si (FI.si (FI.rf M) (by omega)) (by omega)) (a1.up (fun a j z => Or.inl z)), fun Q hQ => ?_, b 0, h1.2, a3, a4, a5⟩
    unfold w_Reader_readClasses
    rw [r1]
    refine ⟨yo9 hY, yo9 hY, r_take (lo := 0) (hi := 8) hY hP hR (by omega) (by omega) (fun _ _ _ _ => ⟨po hY hP, fun M3 e => ?_⟩) (fun c => absurd ⟨h1.1, by omega, h1.2⟩ c)⟩
    subst e
    exact a2 Q hQ
  · obtain ⟨M1, a1, a2, a3, a4, a5⟩ := loop (e_si (e_si M 9 2 (N 0)) P 2 (N 0)) ((hY.si (a := 9) (by omega)).si (by omega)) 0 (by omega) (by rw [gs]) (Or.inr ⟨0, hR.wr.si (by omega), fun S z => ⟨e_si (e_si (e_si (e_si (e_si S 159 81 0) 159 82 0) 159 11 0) 159 82 1) 159 11 0, FI.si (FI.si (f0 S) (by unfold oM; omega)) (by unfold oM; omega), ⟨((y0 S z).si (a := 159) (by omega)).si (by omega), MB.fi (o := fun a j => a = 159 ∧ j = 11) (m0 S z).wr (FI.si (FI.rf _) ⟨rfl, rfl⟩) (by omega) (by omega)⟩, fun Q h => wt S Q z (m_next (y0 S z) (m0 S z) (by omega) (by omega) (fun c1 c2 c3 => absurd ⟨c1, c3⟩ h1) (fun _ => ⟨yo159 (y0 S z), fun M6 e => by subst e; exact ⟨1, m_28B (((y0 S z).si (a := 159) (by omega)).si (by omega)) (MB.fi (o := fun a j => a = 159 ∧ j = 11) (m0 S z).wr (FI.si (FI.rf _) ⟨rfl, rfl⟩) (by omega) (by omega)) h⟩⟩))⟩⟩)
    refine ⟨M1, FI.t2 (FI.si (FI.si (FI.rf M) (by omega)) (by omega)) (a1.up (fun a j z => Or.inl z)), fun Q hQ => ?_, 0, by omega, a3, a4, a5⟩
    unfold w_Reader_readClasses
    rw [r1]
    refine ⟨yo9 hY, yo9 hY, r_take (lo := 0) (hi := 8) hY hP hR (by omega) (by omega) (fun c1 c2 c3 _ => absurd ⟨c1, c3⟩ h1) (fun _ => ⟨po hY hP, fun M3 e => ?_⟩)⟩
    subst e
    exact a2 Q hQ
