theorem enS_wf {D m} (hD : KD D) (hm : m < D 0 2) : wfS D (enS D m) := by
  have h2 := (hD.2.2.2.1 m hm).1
  intro _
  refine ⟨by show (2 : Nat) ≤ 10; omega, fun i hi => ?_, fun i h1 h2' => ?_⟩
  · show vk _ (if i < D 169 m then _ else _)
    by_cases ci : i < D 169 m
    · rw [if_pos ci]
      have := (hD.2.2.2.1 m hm).2.2 i ci
      unfold vt at this; unfold vk; omega
    · rw [if_neg ci]; exact Or.inl rfl
  · show (if i < D 169 m then _ else _) = 0
    rw [if_neg (by omega)]
theorem c_flow {L xs P D m kc ks M} (hP : PP P) (hD : KD D) (hm : m < D 0 2) (hok : okD D m) (hV : VC L xs P D m M) :
    ∃ M1 T, FX (oGi P D m) (oGl P D m) M M1 ∧ VC L xs P D m M1 ∧ FR P D m T M1 ∧ ∀ Q : eM → Prop, Q M1 → w_Verifier_flow kc ks 11 M Q := by
  have hg := hP.ge
  have hd := hD.1
  have h2 := (hD.2.2.2.1 m hm).1
  have hC8 := hd.1
  obtain ⟨hY, h3, h4, hK, hB⟩ := hV
  have k1 := (hK.2.2.2.2.1 m hm)
  -- the two fills
  obtain ⟨M1, f1, v1, p1⟩ := c_fill (kc := 0) (ks := 0) (v := -1) hY (a := P + 59) (lo := D 5 m) (hi := D 5 m + D 174 m) (by omega) (by omega) (lay57 hP).2 (by omega) (by omega) (by omega)
  have g1 : FX (oGi P D m) (oGl P D m) M M1 := (FI.fx f1).up (fun a j z => Or.inl ⟨z.1, z.2.1, z.2.2⟩) (fun a j z => z)
  have V1 : VC L xs P D m M1 := VC.fv hP ⟨hY, h3, h4, hK, hB⟩ hD g1
  have hY1 := V1.1
  obtain ⟨M2, f2, v2, p2⟩ := c_fill (kc := 0) (ks := 0) (v := 0) hY1 (a := 12) (lo := D 5 m) (hi := D 5 m + D 174 m) (n := 1500) (by omega) (by omega) rfl (by omega) (by omega) (by omega)
  have g2 : FX (oGi P D m) (oGl P D m) M1 M2 := (FI.fx f2).up (fun a j z => Or.inr (Or.inl z.1)) (fun a j z => z)
  have V2 := V1.fv hP hD g2
  have q59 : ∀ j, j < D 174 m → gi M2 (P + 59) (D 5 m + j) = -1 := fun j hj => by rw [f2.gi (by omega)]; exact v1 _ (by omega) (by omega)
  have q12 : ∀ j, j < D 174 m → gi M2 12 (D 5 m + j) = 0 := fun j hj => v2 _ (by omega) (by omega)
  have g3 : FX (oGi P D m) (oGl P D m) M2 (e_sl M2 11 7 0) := FX.sl (FX.rf M2) (Or.inr ⟨rfl, Or.inl rfl⟩)
  -- the params
  obtain ⟨M4, ⟨V4, f4, l4⟩, p4⟩ := lpO (X := eM → Prop) (W := fun n f M Q => w_Verifier_flow_48 n kc ks 11 (N (D 5 m)) (N (D 5 m + D 174 m)) (N f) M Q) (hi := D 169 m)
    (I := fun f M' => VC L xs P D m M' ∧ FX (fun _ _ => False) (fun a j => a = 11 ∧ j = 7) M2 M' ∧ PKr (gl M' 11 7) (fun i => if i < f then D 170 (4 * m + i) else 0)) (fun f M' hf ⟨V', f', l'⟩ => by
      obtain ⟨hY', h3', h4', hK', hB'⟩ := V'
      have k1' := (hK'.2.2.2.2.1 m hm)
      have ty := (hD.2.2.2.1 m hm).2.2 f hf
      refine ⟨e_sl M' 11 7 ((gl M' 11 7) ||| (((N (D 170 (4 * m + f))).toInt64) <<< ((8 * N f).toInt64 &&& 63))), ⟨VC.fv hP ⟨hY', h3', h4', hK', hB'⟩ hD (FX.sl (FX.rf M') (Or.inr ⟨rfl, Or.inl rfl⟩)), f'.t2 (FX.sl (FX.rf M') ⟨rfl, rfl⟩), ?_⟩, fun n Q hQ => ?_⟩
      · rw [gls]
        refine zk_cg (zk_or l' (i := f) (v := D 170 (4 * m + f)) (by omega) (by show (if f < f then _ else _) = 0; rw [if_neg (by omega)]) (by unfold vt at ty; omega)) (fun j hj => ?_)
        show (if j = f then _ else if j < f then _ else _) = if j < f + 1 then _ else _
        by_cases c : j = f
        · rw [if_pos c, if_pos (by omega), c]
        · rw [if_neg c]
          by_cases c2 : j < f
          · rw [if_pos c2, if_pos (by omega)]
          · rw [if_neg c2, if_neg (by omega)]
      · unfold w_Verifier_flow_48
        simp (disch := omega) only [N_le, N_lit, yo11 hY', h4', pmo hY' hP, true_and, k1'.1, pmt hY' hP, pmi hY' hP, N_in, N_nat, k1'.2.2.1 f hf, N_add]
        refine ⟨fun z => absurd z (by omega), fun _ => ⟨by omega, fun M13 e13 => ?_⟩⟩
        rw [e13]; exact hQ) (D 169 m) 0 (e_sl M2 11 7 0) (by omega) ⟨V2.fv hP hD g3, FX.sl (FX.rf M2) ⟨rfl, rfl⟩, by
        rw [gls]; exact zk_cg zk_0 (fun j _ => by show 0 = if j < 0 then _ else _; rw [if_neg (by omega)])⟩
  have g4 : FX (oGi P D m) (oGl P D m) M2 M4 := f4.up (fun a j z => z.elim) (fun a j z => Or.inr ⟨z.1, Or.inl z.2⟩)
  -- the entry
  have g5 : FX (oGi P D m) (oGl P D m) M4 (e_si (e_sl M4 11 8 0) 11 6 0) := FX.si (FX.sl (FX.rf M4) (Or.inr ⟨rfl, Or.inr rfl⟩)) (Or.inr (Or.inr ⟨rfl, Or.inr rfl⟩))
  have V5 := V4.fv hP hD g5
  have F5 : FS L xs P D m (fun _ => (0, fun _ => 0)) (fun _ => 0) (e_si (e_sl M4 11 8 0) 11 6 0) := by
    refine ⟨V5, fun j hj => ⟨?_, fun z => absurd z (by show ¬ (2 : Nat) ≤ 0; omega)⟩, fun j hj => ?_, fun j => by show (0 : Nat) ≤ 1; omega, fun j z => absurd z (by show ¬ (2 : Nat) ≤ 0; omega), fun j z => absurd rfl z, fun j z => absurd rfl z, fun U hU j => Or.inl rfl⟩
    · rw [gd (by omega), gi_sl, f4.gi (by simp)]; exact q59 j hj
    · rw [gd (by omega), gi_sl, f4.gi (by simp)]; exact q12 j hj
  have C5 : CUR (enS D m) (e_si (e_sl M4 11 8 0) 11 6 0) := by
    refine ⟨by rw [gs]; rfl, by show (2 : Nat) ≠ 0; omega, fun _ => ⟨?_, ?_⟩⟩
    · rw [gl_si, gld (by omega)]; exact l4
    · rw [gl_si, gls]
      exact zk_cg zk_0 (fun j _ => by show 0 = if 8 + j < D 169 m then _ else _; rw [if_neg (by omega)])
  obtain ⟨M6, T6, w6, F6, C6, G6, l6, p6⟩ := c_come2 hP hD hm F5 C5 (enS_wf hD hm) (bg_0 (by omega)) (fun U hU => hU.2.1)
  obtain ⟨M7, T7, f7, R7, p7⟩ := c_rounds (kc := kc) (ks := ks) hP hD hm hok 36001 0 M6 T6 w6 F6 (fun j t o hb t0 wj hs ho => by
    have := (G6.2.2.1 j wj).2
    rw [this] at t0
    exact absurd rfl t0) l6 (by
    rcases G6.2.2.2 with ⟨a, b, c⟩ | ⟨a, b⟩
    · rw [a] at l6
      rcases l6 with z | z | ⟨z1, z2, _⟩
      · exact absurd z (by show (2 : Nat) ≠ 0; omega)
      · exact absurd z (by decide)
      · exact absurd z2 (by show ¬ (2 : Nat) = 0; omega)
    · have := muT_le (T := T6) (m := m) (D := D) (by omega)
      exact Or.inr ⟨a, by omega⟩) (by omega)
  have gall := ((((g1.t2 g2).t2 g4).t2 g5).t2 G6.1).t2 f7
  refine ⟨M7, T7, gall, VC.fv hP ⟨hY, h3, h4, hK, hB⟩ hD gall, R7, fun Q hQ => ?_⟩
  unfold w_Verifier_flow
  simp (disch := omega) only [yo11 hY, h3, h4, po hY hP, pmo hY hP, true_and, pr15 hY hP, k1.2.2.2.2.2.1, k1.2.2.2.2.2.2, N_add]
  refine ⟨0, 0, by omega, by omega, p1 _ ⟨yo11 hY1, 0, 0, by omega, by omega, ?_⟩⟩
  rw [yr11_2 hY1]
  refine p2 _ ⟨yo11 V2.1, fun M7' e7 => ?_⟩
  rw [e7]
  refine p4 Q ⟨1, ?_⟩
  have hY4 := V4.1
  unfold w_Verifier_flow_48
  simp (disch := omega) only [yo11 hY4, V4.2.2.1, pmo hY4 hP, true_and, (V4.2.2.2.1.2.2.2.2.1 m hm).1]
  refine ⟨fun _ M9 e9 => ?_, fun z => absurd (Int32.le_refl _) z⟩
  subst e9
  refine ⟨yo11 hY4, fun M10 e10 => ?_⟩
  subst e10
  exact ⟨yo11 V5.1, p6 _ (p7 Q hQ)⟩
