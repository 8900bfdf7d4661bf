/-! ===== pure: all methods ===== -/
def MW (nC k P p : Nat) (H : eF) (M : eM) : Prop := ∀ m, m < k → (H 169 m ≤ 4 ∧ H 169 m ≤ H 172 m ∧ H 172 m ≤ 8 ∧ H 173 m ≤ 8 ∧ 1 ≤ H 174 m ∧ H 174 m ≤ 120 ∧ H 5 m + H 174 m ≤ p ∧ ∀ m', m' < m → H 5 m' + H 174 m' ≤ H 5 m) ∧ (gi M (P + 24 + 2 * m) 1 = N (H 169 m) ∧ tyv nC 0 (gi M (P + 24 + 2 * m) 2) ∧ (∀ i, i < H 169 m → tyv nC 1 (gi M (P + 24 + 2 * m + 1) i)) ∧ gi M (P + 24 + 2 * m) 3 = N (H 172 m) ∧ gi M (P + 24 + 2 * m) 4 = N (H 173 m) ∧ gi M (P + 24 + 2 * m) 5 = N (H 5 m) ∧ gi M (P + 24 + 2 * m) 6 = N (H 174 m))
def EqM (k P : Nat) (b : Nat → Nat) (H : eF) (M S : eM) : Prop := ∀ m, m < k → gi S 169 m = N (H 169 m) ∧ gi S 171 m = gi M (P + 24 + 2 * m) 2 ∧ (∀ i, i < H 169 m → gi S 170 (4 * m + i) = gi M (P + 24 + 2 * m + 1) i) ∧ gi S 172 m = N (H 172 m) ∧ gi S 173 m = N (H 173 m) ∧ gi S 174 m = N (H 174 m) ∧ ∀ j, j < H 174 m → gi S 175 (120 * m + j) = N (b (H 5 m + j))
abbrev ocM (P : Nat) : Nat → Nat → Prop := fun a j => a = 9 ∨ (a = P ∧ j = 9) ∨ (P + 24 ≤ a ∧ a ≤ P + 55)
abbrev omN : Nat → Nat → Prop := fun a j => (a = 159 ∧ (j = 19 ∨ j = 81 ∨ j = 82)) ∨ (169 ≤ a ∧ a ≤ 175)
theorem m_106 {L xs k nM S S' n Q} (hkn : k < nM) (hM : nM ≤ 16) (hY : Y L xs S) (hn : gi S 159 19 = N nM) (hb : gi S 159 82 = 0) (hr : ∀ Q : eM → Prop, Q S' → w_Mod_readMethod 159 (N k) S Q) (h : w_Mod_takeApart_106 n 159 (N (k + 1)) S' Q) : w_Mod_takeApart_106 (n + 1) 159 (N k) S Q := by
  unfold w_Mod_takeApart_106
  rw [hn, hb, N_le (by omega) (by omega)]
  refine ⟨yo159 hY, fun c => absurd c (by omega), fun _ => ⟨yo159 hY, fun c => absurd rfl c, fun _ => ⟨yo159 hY, hr _ ?_⟩⟩⟩
  simp only [N_lit, N_add]
  exact h
theorem m_106B {L xs x w S Q} (hY : Y L xs S) (hb : MB w S) (h : w_Mod_takeApart_132 159 S Q) : w_Mod_takeApart_106 1 159 x S Q := by
  unfold w_Mod_takeApart_106
  refine ⟨yo159 hY, fun _ => h, fun _ => ⟨yo159 hY, fun _ => h, fun c => ?_⟩⟩
  rw [hb.2] at c
  exact absurd c (by decide)
/-- a method behind a wrong byte -/
theorem c_methW {L xs P k w M} (hP : PP P) (hk : k < 16) (hY : Y L xs M) (h : RW P w M) : ∃ M', FI (oMt (P + 24 + 2 * k)) M M' ∧ RW P w M' ∧ ∀ (Q : eM → Prop) (k16 : Nat → Int32 → eM → Prop), k16 9 (N (k + 1)) M' → w_Reader_readShape 9 (P + 24 + 2 * k) (N 4) M (fun M5 => cS1 (P + 24 + 2 * k) (N k) Q k16 M5) := by
  have hg := hP.ge
  have hSh : SH P (P + 24 + 2 * k) := Or.inr ⟨k, hk, rfl⟩
  obtain ⟨M', x1, x2, x3⟩ := c_mW1 (m := k) hP hSh (M := e_si (e_si M (P + 24 + 2 * k) 1 (N 0)) (P + 24 + 2 * k) 2 (N 0)) ((hY.si (by omega)).si (by omega)) ((h.si (by omega)).si (by omega))
  exact ⟨M', FI.t2 (FI.si (FI.si (FI.rf M) (by unfold oMt; omega)) (by unfold oMt; omega)) (x1.up (fun a j z => by unfold oT at z; unfold oMt; omega)), x2, fun Q k16 hQ => c_shapeW hP hSh hY h (x3 Q k16 hQ)⟩
theorem l_methods {L xs P len b nC M} {B : eM → eM → Prop} {J : eM → Prop} {Z : Prop} (hP : PP P) (hC : nC ≤ 8) (hBc : ∀ M M' S, B M S → FI (ocM P) M M' → B M' S) (hBm : ∀ M S S', B M S → FI omN S S' → B M S') (hBn : ∀ M S, B M S → Y L xs S ∧ gi S 159 11 = N nC) (hY : Y L xs M) (hn : gi M P 2 = N nC)
    (hin : (Z ∧ ∃ p, RO P p len b M ∧ MP oM Wt J (fun S => MO p len b S ∧ B M S) (fun S Q => w_Mod_takeApart_93 159 S Q)) ∨ (∃ w, RW P w M ∧ MP oM Wt J (fun S => Y L xs S ∧ MB w S) (fun S Q => w_Mod_takeApart_93 159 S Q))) :
    ∃ M1, FI (ocM P) M M1 ∧ (∀ Q : eM → Prop, Q M1 → w_Reader_readMethods 9 M Q) ∧ ∃ nM, 1 ≤ nM ∧ nM ≤ 16 ∧ gi M1 P 9 = N nM ∧
    ((Z ∧ ∃ p H, RO P p len b M1 ∧ MW nC nM P p H M1 ∧ MP oM Wt J (fun S => MO p len b S ∧ B M1 S ∧ gi S 159 19 = N nM ∧ EqM nM P b H M1 S) (fun S Q => w_Mod_takeApart_132 159 S Q))
    ∨ (∃ w, RW P w M1 ∧ MP oM Wt J (fun S => Y L xs S ∧ MB w S) (fun S Q => w_Mod_takeApart_132 159 S Q))) := by
  have hg := hP.ge
  have loop : ∀ M0, Y L xs M0 → ∀ nM, nM ≤ 16 → gi M0 P 2 = N nC → gi M0 P 9 = N nM → ((Z ∧ ∃ p, RO P p len b M0 ∧ MP oM Wt J (fun S => MO p len b S ∧ B M0 S ∧ gi S 159 19 = N nM) (fun S Q => ∃ n, w_Mod_takeApart_106 n 159 (N 0) S Q)) ∨ (∃ w, RW P w M0 ∧ MP oM Wt J (fun S => Y L xs S ∧ MB w S) (fun S Q => w_Mod_takeApart_132 159 S Q))) →
      ∃ M1, FI (ocM P) M0 M1 ∧ (∀ Q : eM → Prop, Q M1 → ∃ n, w_Reader_readMethods_16 n 9 (N 0) M0 Q) ∧ gi M1 P 9 = N nM ∧
      ((Z ∧ ∃ p H, RO P p len b M1 ∧ MW nC nM P p H M1 ∧ MP oM Wt J (fun S => MO p len b S ∧ B M1 S ∧ gi S 159 19 = N nM ∧ EqM nM P b H M1 S) (fun S Q => w_Mod_takeApart_132 159 S Q))
      ∨ (∃ w, RW P w M1 ∧ MP oM Wt J (fun S => Y L xs S ∧ MB w S) (fun S Q => w_Mod_takeApart_132 159 S Q))) := by
    intro M0 hY0 nM hM16 hn0 hs0 hst
    have hY' : ∀ M, FI (ocM P) M0 M → Y L xs M := fun M h => h.Y (fun a j ha => by unfold ocM; omega) hY0
    have hn' : ∀ M, FI (ocM P) M0 M → gi M P 2 = N nC := fun M h => by rw [h.gi (by unfold ocM; omega)]; exact hn0
    obtain ⟨M1, a1, a2⟩ := lpE (W := fun n k M (Q : eM → Prop) => w_Reader_readMethods_16 n 9 (N k) M Q)
      (I := fun k M => FI (ocM P) M0 M ∧ gi M P 9 = N nM ∧ Z ∧ ∃ p H, RO P p len b M ∧ MW nC k P p H M ∧ MP oM Wt J (fun S => MO p len b S ∧ B M S ∧ gi S 159 19 = N nM ∧ EqM k P b H M S) (fun S Q => ∃ n, w_Mod_takeApart_106 n 159 (N k) S Q))
      (E := fun k M => FI (ocM P) M0 M ∧ gi M P 9 = N nM ∧ ∃ w, RW P w M ∧ MP oM Wt J (fun S => Y L xs S ∧ MB w S) (fun S Q => w_Mod_takeApart_132 159 S Q)) (hi := nM)
      (fun k M hk ⟨q1, q7, qz, p, H, q2, q3, q4⟩ => by
        have hYM := hY' M q1
        obtain ⟨M', b1, b2, b3⟩ := l_meth (k := k) (C := fun S => B M S ∧ gi S 159 19 = N nM ∧ EqM k P b H M S) hP (by omega) hC (fun S S' ⟨z1, z2, z3⟩ hf => ⟨hBm M S S' z1 (hf.up (fun a j z => by unfold omM omS omT at z; unfold omN; omega)), by rw [hf.gi (by unfold omM omS omT; omega)]; exact z2, fun m hm => by
            obtain ⟨⟨y1, y2, y3, y4, y5, y6, y7, y8⟩, -⟩ := q3 m hm
            obtain ⟨t1, t2, t3, t4, t5, t6, t7⟩ := z3 m hm
            refine ⟨?_, ?_, fun i hi => ?_, ?_, ?_, ?_, fun j hj => ?_⟩
            · rw [hf.gi (by unfold omM omS omT; omega)]; exact t1
            · rw [hf.gi (by unfold omM omS omT; omega)]; exact t2
            · rw [hf.gi (by unfold omM omS omT; omega)]; exact t3 i hi
            · rw [hf.gi (by unfold omM omS omT; omega)]; exact t4
            · rw [hf.gi (by unfold omM omS omT; omega)]; exact t5
            · rw [hf.gi (by unfold omM omS omT; omega)]; exact t6
            · rw [hf.gi (by unfold omM omS omT; omega)]; exact t7 j hj⟩) (fun S z => hBn M S z.1) hYM (hn' M q1) q2
        have f1 : FI (ocM P) M M' := b1.up (fun a j z => by unfold oMt at z; unfold ocM; omega)
        have v7 : gi M' P 9 = N nM := by rw [b1.gi (by unfold oMt; omega)]; exact q7
        have cl : ∀ n Q, w_Reader_readMethods_16 n 9 (N (k + 1)) M' Q → w_Reader_readMethods_16 (n + 1) 9 (N k) M Q := fun n Q h => c_16 hP hk hM16 hYM q2.1 q7 (b2 Q _ h)
        have conv : ∀ S, B M S ∧ gi S 159 19 = N nM ∧ EqM k P b H M S → B M' S ∧ gi S 159 19 = N nM ∧ EqM k P b H M' S := fun S ⟨z1, z2, z3⟩ => ⟨hBc M M' S z1 f1, z2, fun m hm => by
          obtain ⟨t1, t2, t3, t4⟩ := z3 m hm
          exact ⟨t1, by rw [b1.gi (by unfold oMt; omega)]; exact t2, fun i hi => by rw [b1.gi (by unfold oMt; omega)]; exact t3 i hi, t4⟩⟩
        refine ⟨M', ?_, cl⟩
        rcases b3 with ⟨p', np, lo, mo, z, ca, c0, ⟨c1, c2, c3, c4, c5, c6, c7⟩, c8, c9⟩ | ⟨w, c1, c2⟩
        · refine Or.inl ⟨FI.t2 q1 f1, v7, qz, p', fun a m => if m = k then (if a = 169 then np else if a = 172 then lo else if a = 173 then mo else if a = 174 then z else ca) else H a m, c8, fun m hm => ?_, q4.st fun S hS => ?_⟩
          · by_cases e : m = k
            · subst e
              simp only [if_true, if_false, show ¬ (172 = 169) by decide, show ¬ (173 = 169) by decide, show ¬ (173 = 172) by decide, show ¬ (174 = 169) by decide, show ¬ (174 = 172) by decide, show ¬ (174 = 173) by decide, show ¬ (5 = 169) by decide, show ¬ (5 = 172) by decide, show ¬ (5 = 173) by decide, show ¬ (5 = 174) by decide]
              refine ⟨⟨by omega, by omega, by omega, by omega, by omega, by omega, by omega, fun m' hm' => ?_⟩, c1, c2, c3, c4, c5, c6, c7⟩
              have := (q3 m' hm').1.2.2.2.2.2.2.1
              rw [if_neg (by omega), if_neg (by omega)]; omega
            · simp only [if_neg e]
              obtain ⟨⟨y1, y2, y3, y4, y5, y6, y7, y8⟩, t1, t2, t3, t4, t5, t6, t7⟩ := q3 m (by omega)
              refine ⟨⟨y1, y2, y3, y4, y5, y6, by omega, fun m' hm' => ?_⟩, ?_, ?_, fun i hi => ?_, ?_, ?_, ?_, ?_⟩
              · rw [if_neg (by omega), if_neg (by omega)]; exact y8 m' hm'
              · rw [b1.gi (by unfold oMt; omega)]; exact t1
              · rw [b1.gi (by unfold oMt; omega)]; exact t2
              · rw [b1.gi (by unfold oMt; omega)]; exact t3 i hi
              · rw [b1.gi (by unfold oMt; omega)]; exact t4
              · rw [b1.gi (by unfold oMt; omega)]; exact t5
              · rw [b1.gi (by unfold oMt; omega)]; exact t6
              · rw [b1.gi (by unfold oMt; omega)]; exact t7
          · obtain ⟨S', d1, ⟨d2, d3, d4, d5, d6, d7, d8, d9, d10⟩, d11⟩ := c9 S hS
            obtain ⟨e1, e2, e3⟩ := conv S' d3
            refine ⟨S', d1, ⟨d2, e1, e2, fun m hm => ?_⟩, fun Q ⟨n, hn⟩ => ⟨n + 1, m_106 hk hM16 (hBn M S hS.2.1).1 hS.2.2.1 hS.1.2.1 d11 hn⟩⟩
            by_cases e : m = k
            · subst e
              simp only [if_true, if_false, show ¬ (172 = 169) by decide, show ¬ (173 = 169) by decide, show ¬ (173 = 172) by decide, show ¬ (174 = 169) by decide, show ¬ (174 = 172) by decide, show ¬ (174 = 173) by decide, show ¬ (5 = 169) by decide, show ¬ (5 = 172) by decide, show ¬ (5 = 173) by decide, show ¬ (5 = 174) by decide]
              exact ⟨d4, d5, d6, d7, d8, d9, d10⟩
            · simp only [if_neg e]; exact e3 m (by omega)
        · refine Or.inr ⟨FI.t2 q1 f1, v7, w, c1, q4.st fun S hS => ?_⟩
          obtain ⟨S', d1, ⟨d2, d3⟩, d7⟩ := c2 S hS
          have hY9 := (hBn M S' d2.1).1
          exact ⟨S', d1, ⟨hY9, d3⟩, fun Q h => ⟨1 + 1, m_106 hk hM16 (hBn M S hS.2.1).1 hS.2.2.1 hS.1.2.1 d7 (m_106B hY9 d3 h)⟩⟩)
      (fun k M hk ⟨q1, q7, w, q2, q4⟩ => by
        have hYM := hY' M q1
        obtain ⟨M', x1, x2, x3⟩ := c_methW (k := k) hP (by omega) hYM q2
        exact ⟨M', ⟨FI.t2 q1 (x1.up (fun a j z => by unfold oMt at z; unfold ocM; omega)), by rw [x1.gi (by unfold oMt; omega)]; exact q7, w, x2, q4⟩, fun n Q hn => c_16 hP hk hM16 hYM q2.1 q7 (x3 Q _ hn)⟩)
      nM 0 M0 (by omega) (by
        rcases hst with ⟨yz, p, y1, y2⟩ | ⟨w, y1, y2⟩
        · exact Or.inl ⟨FI.rf _, hs0, yz, p, fun _ _ => 0, y1, fun s hs => by omega, y2.im fun S ⟨z1, z2, z3⟩ => ⟨z1, z2, z3, fun s hs => by omega⟩⟩
        · exact Or.inr ⟨FI.rf _, hs0, w, y1, y2⟩)
    have f1 : FI (ocM P) M0 M1 := a1.elim (fun z => z.1) (fun z => z.1)
    have v7 : gi M1 P 9 = N nM := a1.elim (fun z => z.2.1) (fun z => z.2.1)
    refine ⟨M1, f1, fun Q hQ => a2 Q ⟨1, ?_⟩, v7, ?_⟩
    · unfold w_Reader_readMethods_16
      have r2 : gr M1 9 0 = P := by rcases a1 with ⟨-, -, -, p, F, y1, -⟩ | ⟨-, -, w, y1, -⟩ <;> exact y1.1
      rw [r2, v7]
      exact ⟨yo9 (hY' M1 f1), po (hY' M1 f1) hP, fun _ => hQ, fun c => absurd (Int32.le_refl _) c⟩
    · rcases a1 with ⟨-, -, yz, p, G, y1, y2, y3⟩ | ⟨-, -, w, y1, y2⟩
      · refine Or.inl ⟨yz, p, G, y1, y2, y3.st fun S hS => ⟨S, FI.rf S, hS, fun Q h => ⟨1, ?_⟩⟩⟩
        unfold w_Mod_takeApart_106
        rw [hS.2.2.1]
        exact ⟨yo159 (hBn M1 S hS.2.1).1, fun _ => h, fun c => absurd (Int32.le_refl _) c⟩
      · exact Or.inr ⟨w, y1, y2⟩
  have w93 : ∀ S Q, Y L xs S → w_Mod_next 159 (N 1) (N 16) S (fun v10 M9 => e_ob M9 159 12 ∧ ∀ M11 : eM, M11 = e_si M9 159 19 v10 → ∃ n12 : Nat, w_Mod_takeApart_106 n12 159 0 M11 Q) → w_Mod_takeApart_93 159 S Q := fun S Q hS h => ⟨yo159 hS, h⟩
  rcases hin with ⟨hZ, p, hR, hM⟩ | ⟨w, hR, hM⟩
  · have r1 := hR.1
    by_cases h1 : p < len ∧ 1 ≤ b p ∧ b p ≤ 16
    · obtain ⟨M1, a1, a2, a3, a4⟩ := loop (e_si (e_si M 9 1 (N (p + 1))) P 9 (N (b p))) ((hY.si (a := 9) (by omega)).si (by omega)) (b p) h1.2.2 (by rw [gd (by omega), gd (by omega)]; exact hn) (by rw [gs]) (Or.inl ⟨hZ, p + 1, (hR.si1 hP h1.1).si (by omega) (by omega) (by omega), hM.st fun S ⟨hO, hB⟩ => by
        have hS := (hBn M S hB).1
        have fS : FI omN S (e_si (e_si S 159 81 (N (p + 1))) 159 19 (N (b p))) := FI.si (FI.si (FI.rf S) (by unfold omN; omega)) (by unfold omN; omega)
        refine ⟨_, fS.up (fun a j z => by unfold omN at z; unfold oM; omega), ⟨(hO.si1 h1.1).fi (o := fun a j => a = 159 ∧ j = 19) (FI.si (FI.rf _) ⟨rfl, rfl⟩) (by omega) (by omega) (by omega) (by omega), hBm _ _ _ (hBc M _ S hB (FI.si (FI.si (FI.rf M) (by unfold ocM; omega)) (by unfold ocM; omega))) fS, by rw [gs]⟩, fun Q h => w93 S Q hS (m_next hS hO (by omega) (by omega) (fun _ _ _ => ⟨yo159 (hS.si (a := 159) (by omega)), fun M6 e => ?_⟩) (fun c => absurd h1 c))⟩
        subst e; exact h⟩)
      refine ⟨M1, FI.t2 (FI.si (FI.si (FI.rf M) (by unfold ocM; omega)) (by unfold ocM; omega)) a1, fun Q hQ => ?_, b p, h1.2.1, h1.2.2, a3, a4⟩
      unfold w_Reader_readMethods
      rw [r1]
      refine ⟨yo9 hY, yo9 hY, r_take (lo := 1) (hi := 16) hY hP hR (by omega) (by omega) (fun _ _ _ _ => ⟨po (hY.si (a := 9) (by omega)) hP, fun M3 e => ?_⟩) (fun c => absurd h1 c)⟩
      subst e
      exact a2 Q hQ
    · obtain ⟨M1, a1, a2, a3, a4⟩ := loop (e_si (e_si M 9 2 (N p)) P 9 (N 1)) ((hY.si (a := 9) (by omega)).si (by omega)) 1 (by omega) (by rw [gd (by omega), gd (by omega)]; exact hn) (by rw [gs]) (Or.inr ⟨p, hR.wr.si (by omega), hM.st fun S ⟨hO, hB⟩ => by
        have hS := (hBn M S hB).1
        have hB1 : MB p (e_si (e_si S 159 82 1) 159 19 0) := hO.wr.fi (o := fun a j => a = 159 ∧ j = 19) (FI.si (FI.rf _) ⟨rfl, rfl⟩) (by omega) (by omega)
        have hY1 : Y L xs (e_si (e_si S 159 82 1) 159 19 0) := (hS.si (a := 159) (by omega)).si (by omega)
        refine ⟨_, FI.si (FI.si (FI.rf S) (by unfold oM; omega)) (by unfold oM; omega), ⟨hY1, hB1⟩, fun Q h => w93 S Q hS (m_next hS hO (by omega) (by omega) (fun c1 c2 c3 => absurd ⟨c1, c2, c3⟩ h1) (fun _ => ⟨yo159 (hS.si (a := 159) (by omega)), fun M6 e => ?_⟩))⟩
        subst e; exact ⟨1, m_106B hY1 hB1 h⟩⟩)
      refine ⟨M1, FI.t2 (FI.si (FI.si (FI.rf M) (by unfold ocM; omega)) (by unfold ocM; omega)) a1, fun Q hQ => ?_, 1, by omega, by omega, a3, a4⟩
      unfold w_Reader_readMethods
      rw [r1]
      refine ⟨yo9 hY, yo9 hY, r_take (lo := 1) (hi := 16) hY hP hR (by omega) (by omega) (fun c1 c2 c3 _ => absurd ⟨c1, c2, c3⟩ h1) (fun _ => ⟨po (hY.si (a := 9) (by omega)) hP, fun M3 e => ?_⟩)⟩
      subst e
      exact a2 Q hQ
  · obtain ⟨M1, a1, a2, a3, a4⟩ := loop (e_si M P 9 (N 1)) (hY.si (by omega)) 1 (by omega) (by rw [gd (by omega)]; exact hn) (by rw [gs]) (Or.inr ⟨w, hR.si (by omega), hM.st fun S ⟨hS, hB⟩ => by
      have hB1 : MB w (e_si S 159 19 0) := hB.fi (o := fun a j => a = 159 ∧ j = 19) (FI.si (FI.rf _) ⟨rfl, rfl⟩) (by omega) (by omega)
      have hY1 : Y L xs (e_si S 159 19 0) := hS.si (by omega)
      refine ⟨_, FI.si (FI.rf S) (by unfold oM; omega), ⟨hY1, hB1⟩, fun Q h => w93 S Q hS (m_nextB hS hB ⟨yo159 hS, fun M6 e => ?_⟩)⟩
      subst e; exact ⟨1, m_106B hY1 hB1 h⟩⟩)
    refine ⟨M1, FI.t2 (FI.si (FI.rf M) (by unfold ocM; omega)) a1, fun Q hQ => ?_, 1, by omega, by omega, a3, a4⟩
    unfold w_Reader_readMethods
    rw [hR.1]
    refine ⟨yo9 hY, yo9 hY, r_takeW hY hR ⟨po hY hP, fun M3 e => ?_⟩⟩
    subst e
    exact a2 Q hQ
