/-! ===== pure: the class's flow ends at the least solution ===== -/
def ST (D : eF) (m : Nat) (T : Nat → eS) (w : Nat → Nat) : Prop := ∀ j t o, bg D m j → (T j).1 ≠ 0 → w j = 0 → sucD D m j t → outS D m j (T j) o → leS D o (T t)
abbrev kF : Type := Nat → Nat → Nat → Int32 → Int32 → Int32 → eM → Prop
theorem c_pass {L xs P D m kc ks r M} {T : Nat → eS} {w : Nat → Nat} (hP : PP P) (hD : KD D) (hm : m < D 0 2) (hok : okD D m) (hF : FS L xs P D m T w M) (hS : ST D m T w) (hE : leS D (enS D m) (T 0)) (hc : gi M 11 5 = 0) :
    ∃ M1 T1 w1, FX (oGi P D m) (oGl P D m) M M1 ∧ FS L xs P D m T1 w1 M1 ∧ ST D m T1 w1 ∧ leS D (enS D m) (T1 0) ∧ ((gi M1 11 5 = 0 ∧ ∀ j, w1 j = 0) ∨ (gi M1 11 5 = 1 ∧ muT D m T1 < muT D m T)) ∧ ∀ (Q : eM → Prop) (k106 : kF), k106 kc ks 11 (N (D 5 m)) (N (D 5 m + D 174 m)) (N r + 1) M1 → ∃ n, w_Verifier_flow_127 n kc ks 11 (N (D 5 m)) (N (D 5 m + D 174 m)) (N r) (N (D 5 m)) M Q k106 := by
  have hg := hP.ge
  have hd := hD.1
  have h2 := (hD.2.2.2.1 m hm).1
  have hF0 := hF
  have en2 : (enS D m).1 ≠ 0 := by show (2 : Nat) ≠ 0; omega
  obtain ⟨M1, ⟨T1, w1, f1, F1, S1, E1, c1⟩, p1⟩ := lpO (X := (eM → Prop) × kF) (W := fun n f M x => w_Verifier_flow_127 n kc ks 11 (N (D 5 m)) (N (D 5 m + D 174 m)) (N r) (N (D 5 m + f)) M x.1 x.2) (hi := D 174 m)
    (I := fun f M' => ∃ T' w', FX (oGi P D m) (oGl P D m) M M' ∧ FS L xs P D m T' w' M' ∧ ST D m T' w' ∧ leS D (enS D m) (T' 0) ∧ ((gi M' 11 5 = 0 ∧ T' = T ∧ ∀ j, j < f → w' j = 0) ∨ (gi M' 11 5 = 1 ∧ muT D m T' < muT D m T))) (fun f M' hf ⟨T', w', f', F', S', E', c'⟩ => by
      have hY' := F'.1.1
      have e' := F'.2.2.1 f hf
      have w1' := F'.2.2.2.1 f
      by_cases w0 : w' f = 0
      · refine ⟨M', ⟨T', w', f', F', S', E', ?_⟩, fun n x hx => ?_⟩
        · rcases c' with ⟨a, b, c⟩ | c
          · refine Or.inl ⟨a, b, fun j hj => ?_⟩
            by_cases ej : j = f
            · rw [ej]; exact w0
            · exact c j (by omega)
          · exact Or.inr c
        · unfold w_Verifier_flow_127 w_Verifier_flow_157
          simp (disch := omega) only [N_lit, N_le, yo11 hY', yr11_2 hY', yi12 hY', true_and, N_in, N_nat, e', w0, N_add]
          exact ⟨fun z => absurd z (by omega), fun _ => ⟨by omega, fun _ => hx, fun z => absurd trivial z⟩⟩
      · have hb := F'.2.2.2.2.2.1 f (F'.2.2.2.2.2.2.1 f w0)
        have hgd := hok f hb
        obtain ⟨hV', hR', hw', hw1', hT', hTb', hwT', hbl'⟩ := F'
        have fi : FX (oGi P D m) (oGl P D m) M' (e_si M' 12 (D 5 m + f) 0) := FX.si (FX.rf M') (Or.inr (Or.inl rfl))
        have F2 : FS L xs P D m T' (upW w' f 0) (e_si M' 12 (D 5 m + f) 0) := by
          refine ⟨hV'.fv hP hD fi, fun j hj => ?_, fun j hj => ?_, fun j => ?_, hT', hTb', fun j z => ?_, hbl'⟩
          · rw [gd (by omega), gl_si, gl_si]; exact hR' j hj
          · by_cases ej : j = f
            · rw [ej, gs, upW_s]; rfl
            · rw [gd (by omega), upW_d ej]; exact hw' j hj
          · by_cases ej : j = f
            · rw [ej, upW_s]; omega
            · rw [upW_d ej]; exact hw1' j
          · by_cases ej : j = f
            · rw [ej, upW_s] at z; omega
            · rw [upW_d ej] at z; exact hwT' j z
        obtain ⟨M3, T3, w3, F3, G3, s3, p3⟩ := c_goBehind hP hD hm F2 hgd hb (hwT' f w0)
        refine ⟨M3, ⟨T3, w3, (f'.t2 fi).t2 G3.1, F3, fun j t o hbj t0 wj hs ho => ?_, ?_, ?_⟩, fun n x hx => ?_⟩
        · obtain ⟨y1, y2⟩ := G3.2.2.1 j wj
          rw [y2] at t0 ho
          by_cases ej : j = f
          · rw [ej] at hs ho; exact s3 t o hs ho
          · rw [upW_d ej] at y1
            exact leS_tr hD (outS_wf hD hm (hok j hbj) (hT' j) ho) (hT' t) (F3.2.2.2.2.1 t) (S' j t o hbj t0 y1 hs ho) (G3.2.1 t)
        · refine leS_tr hD ?_ (hT' 0) (F3.2.2.2.2.1 0) E' (G3.2.1 0)
          intro _
          refine ⟨by show (2 : Nat) ≤ 10; omega, fun i hi => ?_, fun i h1 h2' => ?_⟩
          · show vk _ (if i < D 169 m then _ else _)
            by_cases ci : i < D 169 m
            · rw [if_pos ci]
              have := (hD.2.2.2.1 m hm).2.2 i ci
              unfold vt at this; unfold vk; omega
            · rw [if_neg ci]; exact Or.inl rfl
          · show (if i < D 169 m then _ else _) = 0
            rw [if_neg (by omega)]
        · rcases G3.2.2.2 with ⟨a, b, c⟩ | ⟨a, b⟩
          · rw [c, gd (by omega), a]
            rcases c' with ⟨a', b', d'⟩ | d'
            · refine Or.inl ⟨a', b', fun j hj => ?_⟩
              rw [b]
              by_cases ej : j = f
              · rw [ej, upW_s]
              · rw [upW_d ej]; exact d' j (by omega)
            · exact Or.inr d'
          · refine Or.inr ⟨a, ?_⟩
            rcases c' with ⟨a', b', d'⟩ | d'
            · rw [b'] at b; exact b
            · omega
        · have hY2 := F2.1.1
          unfold w_Verifier_flow_127 w_Verifier_flow_157
          simp (disch := omega) only [N_le, yo11 hY', yr11_2 hY', yi12 hY', ya12 hY', true_and, N_in, N_nat, e']
          refine ⟨fun z => absurd z (by omega), fun _ => ⟨by omega, fun z => ?_, fun _ => ⟨by omega, fun M16 e16 => ?_⟩⟩⟩
          · rw [show (0 : Int32) = N 0 from rfl, N_eq (by omega) (by omega)] at z; exact absurd z w0
          · subst e16
            refine ⟨yo11 hY2, p3 _ ?_⟩
            rw [show (1 : Int32) = N 1 from rfl, N_add, Nat.add_assoc]
            exact hx) (D 174 m) 0 M (by omega) ⟨T, w, FX.rf M, hF0, hS, hE, Or.inl ⟨hc, rfl, fun j hj => by omega⟩⟩
  refine ⟨M1, T1, w1, f1, F1, S1, E1, ?_, fun Q k106 hk => p1 (Q, k106) ⟨1, ?_⟩⟩
  · rcases c1 with ⟨a, b, c⟩ | c
    · refine Or.inl ⟨a, fun j => ?_⟩
      by_cases ej : j < D 174 m
      · exact c j ej
      · by_cases w0 : w1 j = 0
        · exact w0
        · exact absurd (bg_lt (F1.2.2.2.2.2.1 j (F1.2.2.2.2.2.2.1 j w0))) ej
    · exact Or.inr c
  · show w_Verifier_flow_127 1 kc ks 11 (N (D 5 m)) (N (D 5 m + D 174 m)) (N r) (N (D 5 m + D 174 m)) M1 Q k106
    unfold w_Verifier_flow_127
    exact ⟨fun _ => hk, fun z => absurd (Int32.le_refl _) z⟩
/-- the states that the flow leaves -/
def FR (P : Nat) (D : eF) (m : Nat) (T : Nat → eS) (M : eM) : Prop := RT P D m T M ∧ Sol D m T ∧ below D m T ∧ ∀ j, (T j).1 ≠ 0 → bg D m j
theorem c_rounds {L xs P D m kc ks} (hP : PP P) (hD : KD D) (hm : m < D 0 2) (hok : okD D m) : ∀ k r M (T : Nat → eS) (w : Nat → Nat), FS L xs P D m T w M → ST D m T w → leS D (enS D m) (T 0) → ((gi M 11 5 = 0 ∧ ∀ j, w j = 0) ∨ (gi M 11 5 = 1 ∧ muT D m T < k)) → r + k ≤ 40000 → ∃ M1 T1, FX (oGi P D m) (oGl P D m) M M1 ∧ FR P D m T1 M1 ∧ ∀ Q : eM → Prop, Q M1 → ∃ n, w_Verifier_flow_106 n kc ks 11 (N (D 5 m)) (N (D 5 m + D 174 m)) (N r) M Q := by
  intro k
  induction k with
  | zero =>
    intro r M T w hF hS hE hc hr
    rcases hc with ⟨c1, c2⟩ | ⟨c1, c2⟩
    · refine ⟨M, T, FX.rf M, ⟨hF.2.1, ⟨hF.2.2.2.2.1, hE, fun j t o a b c d => hS j t o a b (c2 j) c d⟩, hF.2.2.2.2.2.2.2, hF.2.2.2.2.2.1⟩, fun Q hQ => ⟨1, ?_⟩⟩
      unfold w_Verifier_flow_106 w_Verifier_flow_169
      exact ⟨yo11 hF.1.1, fun _ => hQ, fun z => absurd c1 z⟩
    · omega
  | succ k ih =>
    intro r M T w hF hS hE hc hr
    rcases hc with ⟨c1, c2⟩ | ⟨c1, c2⟩
    · refine ⟨M, T, FX.rf M, ⟨hF.2.1, ⟨hF.2.2.2.2.1, hE, fun j t o a b c d => hS j t o a b (c2 j) c d⟩, hF.2.2.2.2.2.2.2, hF.2.2.2.2.2.1⟩, fun Q hQ => ⟨1, ?_⟩⟩
      unfold w_Verifier_flow_106 w_Verifier_flow_169
      exact ⟨yo11 hF.1.1, fun _ => hQ, fun z => absurd c1 z⟩
    · have fi : FX (oGi P D m) (oGl P D m) M (e_si M 11 5 0) := FX.si (FX.rf M) (Or.inr (Or.inr ⟨rfl, Or.inl rfl⟩))
      have hg := hP.ge
      have F1 : FS L xs P D m T w (e_si M 11 5 0) := by
        obtain ⟨a1, a2, a3, a4⟩ := hF
        refine ⟨a1.fv hP hD fi, fun j hj => ?_, fun j hj => ?_, a4⟩
        · rw [gd (by omega), gl_si, gl_si]; exact a2 j hj
        · rw [gd (by omega)]; exact a3 j hj
      obtain ⟨M2, T2, w2, f2, F2, S2, E2, d2, p2⟩ := c_pass (kc := kc) (ks := ks) (r := r) hP hD hm hok F1 hS hE (gs _ _ _ _)
      obtain ⟨M3, T3, f3, R3, p3⟩ := ih (r + 1) M2 T2 w2 F2 S2 E2 (by
        rcases d2 with d | ⟨d1, d2⟩
        · exact Or.inl d
        · exact Or.inr ⟨d1, by omega⟩) (by omega)
      refine ⟨M3, T3, (fi.t2 f2).t2 f3, R3, fun Q hQ => ?_⟩
      obtain ⟨n, hn⟩ := p3 Q hQ
      refine ⟨n + 1, ?_⟩
      have hY := hF.1.1
      unfold w_Verifier_flow_106 w_Verifier_flow_169
      refine ⟨yo11 hY, fun z => ?_, fun _ => ⟨fun z => ?_, fun _ => ⟨yo11 hY, Or.inl rfl, fun M14 e14 => ?_⟩⟩⟩
      · rw [c1] at z; exact absurd z (by decide)
      · rw [show (1000000 : Int32) = N 1000000 from rfl, N_le (by omega) (by omega)] at z; omega
      · subst e14
        refine p2 Q _ ?_
        rw [show (1 : Int32) = N 1 from rfl, N_add]
        exact hn
