/-! ===== pure: a whole file read ===== -/
theorem Y.sr {L xs} {M : eM} (h : Y L xs M) {a j x : Nat} (hq : y_refs.all (fun q => !(q.1 == a && q.2.1 == j)) = true) : Y L xs (e_sr M a j x) := by
  obtain ⟨h1, h2, h3⟩ := h
  refine ⟨h1, fun q hq' => ?_, h3⟩
  have := List.all_eq_true.mp hq q hq'
  rw [gr_sr, if_neg (fun z => by rw [z.1, z.2] at this; simp at this)]
  exact h2 q hq'
theorem y_no90 : y_refs.all (fun q => !(q.1 == 9 && q.2.1 == 0)) = true := by decide +kernel
/-- the program at P holds len bytes -/
def PL (P len : Nat) (b : Nat → Nat) (M : eM) : Prop := gi M P 1 = N len ∧ len ≤ 1500 ∧ ∀ j, j < len → gi M (P + 1) j = N (b j) ∧ b j < 256
theorem l_parse {L xs P len b M} (hP : PP P) (hY : Y L xs M) (hL : PL P len b M) :
    ∃ v M1, FI (oR P) (e_sr M 9 0 P) M1 ∧ (∀ Q : Int32 → eM → Prop, Q v M1 → w_Reader_firstWrong 9 P M Q) ∧
    ((v = -1 ∧ ∃ nC nS nM F G H T, 1 ≤ nM ∧ PA P nC nS nM len F G H M1 ∧ TW P nM nS nC 0 F G H T M1 ∧ MP oM Wt (MJ L xs len b) (fun S => PB L xs P b nC nS nM F G H M1 S ∧ EqT nS nC 0 T S) (fun S Q => Q 1 S))
    ∨ (∃ w, w ≤ 1500 ∧ v = N w ∧ MP oM Wt (MJ L xs len b) (fun S => Y L xs S ∧ gi S 159 81 = N w) (fun S Q => Q 0 S))) := by
  have hg := hP.ge
  obtain ⟨l1, l2, l3⟩ := hL
  have hYr : Y L xs (e_sr M 9 0 P) := hY.sr y_no90
  have hY3 : Y L xs (e_si (e_si (e_sr M 9 0 P) 9 1 0) 9 2 (-1)) := (hYr.si (by omega)).si (by omega)
  have hR3 : RO P 0 len b (e_si (e_si (e_sr M 9 0 P) 9 1 0) 9 2 (-1)) := by
    refine ⟨?_, ?_, ?_, ?_, by omega, l2, fun j hj => ?_⟩
    · show gr (e_sr M 9 0 P) 9 0 = P
      rw [gr_sr, if_pos ⟨rfl, rfl⟩]
    · rw [gd (by omega), gs]; rfl
    · rw [gs]
    · rw [gd (by omega), gd (by omega)]; exact l1
    · rw [gd (by omega), gd (by omega)]; exact l3 j hj
  obtain ⟨Ma, a1, a2, nC, hC, a3, a4, a5⟩ := l_classes hP hY3 hR3
  have hYa : Y L xs Ma := a1.Y (fun a j ha => by unfold oc3; omega) hY3
  have selS : ∃ F : eF, ((CW nC nC P F Ma ∧ ∃ p, RO P p len b Ma ∧ MP oM Wt (MJ L xs len b) (fun S => MO p len b S ∧ (Y L xs S ∧ gi S 159 11 = N nC) ∧ EqC nC P F Ma S) (fun S Q => w_Mod_takeApart_54 159 S Q)) ∨ (∃ w, RW P w Ma ∧ MP oM Wt (MJ L xs len b) (fun S => Y L xs S ∧ MB w S) (fun S Q => w_Mod_takeApart_54 159 S Q))) := by
    rcases a5 with ⟨p, F, y1, y2, y3⟩ | h
    · exact ⟨F, Or.inl ⟨y2, p, y1, y3.im fun S ⟨z1, z2, z3⟩ => ⟨z2, z1, z3⟩⟩⟩
    · exact ⟨fun _ _ => 0, Or.inr h⟩
  obtain ⟨F, hF⟩ := selS
  obtain ⟨Mb, b1, b2, nS, hS8, b3, b4⟩ := l_selectors (B := fun M S => (Y L xs S ∧ gi S 159 11 = N nC) ∧ EqC nC P F M S) (J := MJ L xs len b) hP hC
    (fun M M' S ⟨z1, z2⟩ hf => ⟨z1, z2.fi hf (fun a j _ _ => by unfold ocS; omega)⟩)
    (fun M S S' ⟨z1, z2⟩ hf => ⟨⟨hf.Y (fun a j ha => by unfold omL; omega) z1.1, by rw [hf.gi (by unfold omL; omega)]; exact z1.2⟩, z2.fs hf (fun a j _ _ => by unfold omL; omega)⟩)
    (fun M S z => z.1) hYa a3 hF
  have hYb : Y L xs Mb := b1.Y (fun a j ha => by unfold ocS; omega) hYa
  have n2b : gi Mb P 2 = N nC := by rw [b1.gi (by unfold ocS; omega)]; exact a3
  have selM : ∃ G : Nat → Nat, (((CW nC nC P F Ma ∧ SW nC nS P G Mb) ∧ ∃ p, RO P p len b Mb ∧ MP oM Wt (MJ L xs len b) (fun S => MO p len b S ∧ ((Y L xs S ∧ gi S 159 11 = N nC) ∧ EqC nC P F Mb S) ∧ gi S 159 15 = N nS ∧ EqS nS P G Mb S) (fun S Q => w_Mod_takeApart_93 159 S Q)) ∨ (∃ w, RW P w Mb ∧ MP oM Wt (MJ L xs len b) (fun S => Y L xs S ∧ MB w S) (fun S Q => w_Mod_takeApart_93 159 S Q))) := by
    rcases b4 with ⟨yz, p, G, y1, y2, y3⟩ | h
    · exact ⟨G, Or.inl ⟨⟨yz, y2⟩, p, y1, y3⟩⟩
    · exact ⟨fun _ => 0, Or.inr h⟩
  obtain ⟨G, hG⟩ := selM
  obtain ⟨Mc, c1, c2, nM, hM1, hM16, c3, c4⟩ := l_methods (B := fun M S => ((Y L xs S ∧ gi S 159 11 = N nC) ∧ EqC nC P F M S) ∧ gi S 159 15 = N nS ∧ EqS nS P G M S) (J := MJ L xs len b) hP hC
    (fun M M' S ⟨⟨z1, z2⟩, z3, z4⟩ hf => ⟨⟨z1, z2.fi hf (fun a j _ _ => by unfold ocM; omega)⟩, z3, z4.fi hS8 hf (fun a j _ _ => by unfold ocM; omega)⟩)
    (fun M S S' ⟨⟨z1, z2⟩, z3, z4⟩ hf => ⟨⟨⟨hf.Y (fun a j ha => by unfold omN; omega) z1.1, by rw [hf.gi (by unfold omN; omega)]; exact z1.2⟩, z2.fs hf (fun a j _ _ => by unfold omN; omega)⟩, by rw [hf.gi (by unfold omN; omega)]; exact z3, z4.fs hf (fun a j _ _ => by unfold omN; omega)⟩)
    (fun M S z => z.1.1) hYb n2b hG
  have hYc : Y L xs Mc := c1.Y (fun a j ha => by unfold ocM; omega) hYb
  have n2c : gi Mc P 2 = N nC := by rw [c1.gi (by unfold ocM; omega)]; exact n2b
  have n7c : gi Mc P 7 = N nS := by rw [c1.gi (by unfold ocM; omega)]; exact b3
  obtain ⟨Md, d1, d2, d3⟩ := l_table (nM := nM) (p0 := len) (J := MJ L xs len b) (len := len) (b := b) hP hC hS8 hYc n2c n7c (fun c hc => by
      obtain ⟨q, y1, y2⟩ := a4 c hc
      exact ⟨q, y1, by rw [c1.gi (by unfold ocM; omega), b1.gi (by unfold ocS; omega)]; exact y2⟩) (by
    rcases c4 with ⟨⟨yz, yw⟩, p, H, y1, y2, y3⟩ | h
    · have hpl := y1.2.2.2.2.1
      have y2 : MW nC nM P len H Mc := fun m hm => by
        obtain ⟨⟨q1, q2, q3, q4, q5, q6, q7, q8⟩, q9⟩ := y2 m hm
        exact ⟨⟨q1, q2, q3, q4, q5, q6, by omega, q8⟩, q9⟩
      exact Or.inl ⟨p, F, G, H, y1, ⟨⟨hC, hS8, hM16⟩, ⟨n2c, n7c, c3⟩, (yz.fi b1 (fun a j _ _ => by unfold ocS; omega)).fi c1 (fun a j _ _ => by unfold ocM; omega), yw.fi hS8 c1 (fun a j _ _ => by unfold ocM; omega), y2⟩, y3.im fun S ⟨z1, ⟨⟨z2, z3⟩, z4, z5⟩, z6, z7⟩ => ⟨z1, z2, z4, z6, z3, z5, z7⟩⟩
    · exact Or.inr h)
  have hYd : Y L xs Md := d1.Y (fun a j ha => by unfold ocT; omega) hYc
  have fr : FI (oR P) (e_sr M 9 0 P) Md := by
    refine FI.t2 (FI.t2 (FI.t2 (FI.t2 (FI.si (FI.si (FI.rf _) ?_) ?_) (a1.up ?_)) (b1.up ?_)) (c1.up ?_)) (d1.up ?_)
    · unfold oR; omega
    · unfold oR; omega
    · intro a j z; unfold oc3 at z; unfold oR; omega
    · intro a j z; unfold ocS at z; unfold oR; omega
    · intro a j z; unfold ocM at z; unfold oR; omega
    · intro a j z; unfold ocT at z; unfold oR; omega
  have start : ∀ Q : Int32 → eM → Prop, ((¬ (gi Md 9 2) = (-1) → w_Reader_firstWrong_61 9 Md Q) ∧ ((gi Md 9 2) = (-1) → e_ob Md 9 7 ∧ e_ob Md 9 7 ∧ e_ob Md (gr Md 9 0) 6 ∧ ((gi Md (gr Md 9 0) 1) ≤ (gi Md 9 1) → w_Reader_firstWrong_61 9 Md Q) ∧ (¬ (gi Md (gr Md 9 0) 1) ≤ (gi Md 9 1) → e_ob Md 9 7 ∧ e_ob Md 9 7 ∧ ∀ M8 : eM, M8 = e_si Md 9 2 (gi Md 9 1) → w_Reader_firstWrong_61 9 M8 Q))) → w_Reader_firstWrong 9 P M Q := by
    intro Q h
    unfold w_Reader_firstWrong
    refine ⟨yo9 hY, fun M1 e1 => ?_⟩
    subst e1
    refine ⟨yo9 hYr, fun M2 e2 => ?_⟩
    subst e2
    refine ⟨yo9 (hYr.si (by omega)), fun M3 e3 => ?_⟩
    subst e3
    exact ⟨yo9 hY3, a2 _ ⟨yo9 hYa, b2 _ ⟨yo9 hYb, c2 _ ⟨yo9 hYc, d2 _ ⟨yo9 hYd, h⟩⟩⟩⟩⟩
  rcases d3 with ⟨p, F', G', H', T, y1, y2, y3, y4⟩ | ⟨w, y1, y2⟩
  · by_cases e : p = len
    · subst e
      refine ⟨-1, Md, fr, fun Q hQ => start Q ⟨fun z => absurd y1.2.2.1 z, fun _ => ?_⟩, Or.inl ⟨rfl, nC, nS, nM, F', G', H', T, hM1, ?_, y3, y4.st fun S hS => ⟨S, FI.rf S, hS.2, fun Q hQ => ?_⟩⟩⟩
      · rw [y1.1, y1.2.2.2.1, y1.2.1]
        refine ⟨yo9 hYd, yo9 hYd, po hYd hP, fun _ => ⟨yo9 hYd, by rw [y1.2.2.1]; exact hQ⟩, fun z => absurd (Int32.le_refl _) z⟩
      · exact y2
      · exact m_176 hS.2.1.1.1 0 p p (Or.inr ⟨⟨hS.1.2.1, hS.1.1, hS.1.2.2.1, Nat.le_refl _, hS.1.2.2.2.2.1⟩, fun _ => hQ, fun z => absurd z (Nat.lt_irrefl _)⟩)
    · have hlt : p < len := by have := y1.2.2.2.2.1; omega
      refine ⟨N p, e_si Md 9 2 (N p), FI.si fr (Or.inl rfl), fun Q hQ => start Q ⟨fun z => absurd y1.2.2.1 z, fun _ => ?_⟩, Or.inr ⟨p, by omega, rfl, y4.st fun S hS => ⟨e_si S 159 82 1, FI.si (FI.rf S) (by unfold oM; omega), ⟨hS.2.1.1.1.si (by omega), by rw [gd (by omega)]; exact hS.1.1⟩, fun Q hQ => ?_⟩⟩⟩
      · rw [y1.1, y1.2.2.2.1, y1.2.1, N_le (by omega) (by omega)]
        refine ⟨yo9 hYd, yo9 hYd, po hYd hP, fun z => absurd z (by omega), fun _ => ⟨yo9 hYd, yo9 hYd, fun M8 e8 => ?_⟩⟩
        subst e8
        exact ⟨yo9 (hYd.si (by omega)), by rw [gs]; exact hQ⟩
      · exact m_176 hS.2.1.1.1 0 len p (Or.inr ⟨⟨hS.1.2.1, hS.1.1, hS.1.2.2.1, hS.1.2.2.2.1, hS.1.2.2.2.2.1⟩, fun z => absurd z e, fun _ => hQ⟩)
  · refine ⟨N w, Md, fr, fun Q hQ => start Q ⟨fun _ => ⟨yo9 hYd, by rw [y1.2.1]; exact hQ⟩, fun z => ?_⟩, Or.inr ⟨w, y1.2.2, rfl, y2.st fun S hS => ⟨S, FI.rf S, ⟨hS.1, hS.2.1⟩, fun Q hQ => m_176 hS.1 w 0 0 (Or.inl ⟨hS.2, hQ⟩)⟩⟩⟩
    rw [y1.2.1, N_neg (by have := y1.2.2; omega)] at z
    exact z.elim
