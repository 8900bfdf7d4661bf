theorem m_176 {L xs S Q} (hY : Y L xs S) (w len p : Nat) (h : (MB w S ∧ Q 0 S) ∨ ((gi S 159 82 = 0 ∧ gi S 159 81 = N p ∧ gi S 159 4 = N len ∧ p ≤ len ∧ len ≤ 1500) ∧ (p = len → Q 1 S) ∧ (p < len → Q 0 (e_si S 159 82 1)))) : w_Mod_takeApart_176 159 S Q := by
  have h199 : ∀ S v, Y L xs S → (gi S 159 82 = 0 → v = 1) → (gi S 159 82 ≠ 0 → v = 0) → Q v S → w_Mod_takeApart_199 159 S Q := by
    intro S v hS h1 h2 h3
    unfold w_Mod_takeApart_199 w_Mod_takeApart_211
    refine ⟨yo159 hS, fun c => ⟨Or.inl rfl, by rw [h2 c] at h3; exact h3⟩, fun c => ⟨Or.inr rfl, by rw [h1 c] at h3; exact h3⟩⟩
  unfold w_Mod_takeApart_176
  rcases h with ⟨hB, hQ⟩ | ⟨⟨h1, h2, h3, h4, h5⟩, hQ1, hQ0⟩
  · rw [hB.2]
    exact ⟨yo159 hY, fun _ => h199 S 0 hY (fun z => by rw [hB.2] at z; exact absurd z (by decide)) (fun _ => rfl) hQ, fun z => absurd z (by decide)⟩
  · rw [h1, h2, h3, N_le (by omega) (by omega)]
    refine ⟨yo159 hY, fun z => absurd rfl z, fun _ => ⟨yo159 hY, yo159 hY, fun c => h199 S 1 hY (fun _ => rfl) (fun z => absurd h1 z) (hQ1 (by omega)), fun c => ⟨yo159 hY, by decide, fun M21 e => ?_⟩⟩⟩
    subst e
    exact h199 _ 0 (hY.si (by omega)) (fun z => by rw [gs] at z; exact absurd z (by decide)) (fun _ => rfl) (hQ0 (by omega))
theorem idx_div {c s n : Nat} (hs : s < n) : (c * n + s) / n = c ∧ c * n + s - c * n = s := by
  refine ⟨?_, by omega⟩
  rw [Nat.mul_comm, Nat.mul_add_div (by omega), Nat.div_eq_of_lt hs]; simp
theorem idx_lt {c s n m : Nat} (hc : c < m) (hs : s < n) : c * n + s < m * n := by
  have : (c + 1) * n ≤ m * n := Nat.mul_le_mul_right n hc
  rw [Nat.succ_mul] at this
  omega
theorem mul88 {a b : Nat} (ha : a ≤ 8) (hb : b ≤ 8) : a * b ≤ 64 := Nat.mul_le_mul ha hb
theorem m_134 {L xs c s nC nS S S' n Q} (hc : c < nC) (hC : nC ≤ 8) (hs : s < nS) (hS8 : nS ≤ 8) (hY : Y L xs S) (hn : gi S 159 11 = N nC) (hm : gi S 159 15 = N nS) (hb : gi S 159 82 = 0) (hr : ∀ Q : eM → Prop, Q S' → w_Mod_readTable 159 (N c) (N s) S Q) (h : w_Mod_takeApart_134 n 159 (N (c * nS + (s + 1))) S' Q) : w_Mod_takeApart_134 (n + 1) 159 (N (c * nS + s)) S Q := by
  have i1 := idx_div (c := c) hs
  have i2 := idx_lt hc hs
  have i3 := mul88 hC hS8
  unfold w_Mod_takeApart_134
  have hn0 : ¬ N nS = 0 := by rw [show (0 : Int32) = N 0 from rfl, N_eq (by omega) (by omega)]; omega
  have e1 : N (c * nS + s) / N nS = N c := by rw [N_div (by omega) (by omega), i1.1]
  have e2 : N (c * nS + s) - N (c * nS + s) / N nS * N nS = N s := by rw [e1, N_mul, N_sub (by omega), i1.2]
  rw [hn, hm, hb, N_mul, N_le (by omega) (by omega), e2, e1]
  refine ⟨yo159 hY, yo159 hY, fun z => absurd z (by omega), fun _ => ⟨yo159 hY, fun z => absurd rfl z, fun _ => ⟨yo159 hY, hn0, yo159 hY, hn0, yo159 hY, hr _ ?_⟩⟩⟩
  show w_Mod_takeApart_134 n 159 (N (c * nS + s) + N 1) S' Q
  rw [N_add, show c * nS + s + 1 = c * nS + (s + 1) by omega]
  exact h
theorem m_134B {L xs x w S Q} (hY : Y L xs S) (hb : MB w S) (h : w_Mod_takeApart_176 159 S Q) : w_Mod_takeApart_134 1 159 x S Q := by
  unfold w_Mod_takeApart_134
  refine ⟨yo159 hY, yo159 hY, fun _ => h, fun _ => ⟨yo159 hY, fun _ => h, fun c => ?_⟩⟩
  rw [hb.2] at c
  exact absurd c (by decide)
theorem l_table {L xs P len b nC nS nM p0 M0} {J : eM → Prop} (hP : PP P) (hC : nC ≤ 8) (hS8 : nS ≤ 8) (hY0 : Y L xs M0) (hn2 : gi M0 P 2 = N nC) (hn7 : gi M0 P 7 = N nS) (hsup : ∀ c, c < nC → ∃ q, q ≤ c ∧ gi M0 (P + 2) c = N q - N 1)
    (hin : (∃ p F G H, RO P p len b M0 ∧ PA P nC nS nM p0 F G H M0 ∧ MP oM Wt J (fun S => MO p len b S ∧ PB L xs P b nC nS nM F G H M0 S) (fun S Q => w_Mod_takeApart_132 159 S Q)) ∨ (∃ w, RW P w M0 ∧ MP oM Wt J (fun S => Y L xs S ∧ MB w S) (fun S Q => w_Mod_takeApart_132 159 S Q))) :
    ∃ M1, FI (ocT P) M0 M1 ∧ (∀ Q : eM → Prop, Q M1 → w_Reader_readTable 9 M0 Q) ∧
    ((∃ p F G H T, RO P p len b M1 ∧ PA P nC nS nM p0 F G H M1 ∧ TW P nM nS nC 0 F G H T M1 ∧ MP oM Wt J (fun S => MO p len b S ∧ PB L xs P b nC nS nM F G H M1 S ∧ EqT nS nC 0 T S) (fun S Q => w_Mod_takeApart_176 159 S Q))
    ∨ (∃ w, RW P w M1 ∧ MP oM Wt J (fun S => Y L xs S ∧ MB w S) (fun S Q => w_Mod_takeApart_176 159 S Q))) := by
  have hg := hP.ge
  have hY' : ∀ M, FI (ocT P) M0 M → Y L xs M := fun M h => h.Y (fun a j ha => by unfold ocT; omega) hY0
  have h2' : ∀ M, FI (ocT P) M0 M → gi M P 2 = N nC := fun M h => by rw [h.gi (by unfold ocT; omega)]; exact hn2
  have h7' : ∀ M, FI (ocT P) M0 M → gi M P 7 = N nS := fun M h => by rw [h.gi (by unfold ocT; omega)]; exact hn7
  have hE : ∀ w, MP oM Wt J (fun S => Y L xs S ∧ MB w S) (fun S Q => w_Mod_takeApart_132 159 S Q) → MP oM Wt J (fun S => Y L xs S ∧ MB w S) (fun S Q => w_Mod_takeApart_176 159 S Q) := fun w h => h.st fun S hS => ⟨S, FI.rf S, hS, fun Q hQ => ⟨1, m_134B hS.1 hS.2 hQ⟩⟩
  -- the inner loop
  have row : ∀ c, c < nC → ∀ M, FI (ocT P) M0 M → ((∃ p F G H T, RO P p len b M ∧ PA P nC nS nM p0 F G H M ∧ TW P nM nS c 0 F G H T M ∧ MP oM Wt J (fun S => MO p len b S ∧ PB L xs P b nC nS nM F G H M S ∧ EqT nS c 0 T S) (fun S Q => ∃ n, w_Mod_takeApart_134 n 159 (N (c * nS + 0)) S Q)) ∨ (∃ w, RW P w M ∧ MP oM Wt J (fun S => Y L xs S ∧ MB w S) (fun S Q => w_Mod_takeApart_176 159 S Q))) →
      ∃ M1, FI (ocT P) M0 M1 ∧ ((∃ p F G H T, RO P p len b M1 ∧ PA P nC nS nM p0 F G H M1 ∧ TW P nM nS c nS F G H T M1 ∧ MP oM Wt J (fun S => MO p len b S ∧ PB L xs P b nC nS nM F G H M1 S ∧ EqT nS c nS T S) (fun S Q => ∃ n, w_Mod_takeApart_134 n 159 (N (c * nS + nS)) S Q)) ∨ (∃ w, RW P w M1 ∧ MP oM Wt J (fun S => Y L xs S ∧ MB w S) (fun S Q => w_Mod_takeApart_176 159 S Q))) ∧ ∀ x : (eM → Prop) × (Nat → Int32 → eM → Prop), (∃ n, w_Reader_readTable_15 n 9 (N c) (N nS) M1 x.1 x.2) → ∃ n, w_Reader_readTable_15 n 9 (N c) (N 0) M x.1 x.2 := by
    intro c hc M hM hst
    obtain ⟨M1, a1, a2⟩ := lpE (W := fun n s M (x : (eM → Prop) × (Nat → Int32 → eM → Prop)) => w_Reader_readTable_15 n 9 (N c) (N s) M x.1 x.2)
      (I := fun s M => FI (ocT P) M0 M ∧ ∃ p F G H T, RO P p len b M ∧ PA P nC nS nM p0 F G H M ∧ TW P nM nS c s F G H T M ∧ MP oM Wt J (fun S => MO p len b S ∧ PB L xs P b nC nS nM F G H M S ∧ EqT nS c s T S) (fun S Q => ∃ n, w_Mod_takeApart_134 n 159 (N (c * nS + s)) S Q))
      (E := fun s M => FI (ocT P) M0 M ∧ ∃ w, RW P w M ∧ MP oM Wt J (fun S => Y L xs S ∧ MB w S) (fun S Q => w_Mod_takeApart_176 159 S Q)) (hi := nS)
      (fun s M hs ⟨q1, p, F, G, H, T, q2, q3, q4, q5⟩ => by
        obtain ⟨M', b1, b2, b3⟩ := l_cell hP hc hs (hY' M q1) q2 q3 q4
        refine ⟨M', ?_, fun n x h => b2 n x.1 x.2 h⟩
        rcases b3 with ⟨p', T', c0, c1, c2, c3⟩ | ⟨w, c1, c2⟩
        · refine Or.inl ⟨FI.t2 q1 b1, p', F, G, H, T', c1, q3.fi hP b1, c2, q5.st fun S hS => ?_⟩
          obtain ⟨S', d1, d2, d3⟩ := c3 S hS
          obtain ⟨hO, hB, hEq⟩ := hS
          exact ⟨S', d1, d2, fun Q ⟨n, hn⟩ => ⟨n + 1, m_134 hc hC hs hS8 hB.1.1 hB.1.2 hB.2.1 hO.2.1 d3 hn⟩⟩
        · refine Or.inr ⟨FI.t2 q1 b1, w, c1, q5.st fun S hS => ?_⟩
          obtain ⟨S', d1, d2, d3⟩ := c2 S hS
          obtain ⟨hO, hB, hEq⟩ := hS
          exact ⟨S', d1, d2, fun Q h => ⟨1 + 1, m_134 hc hC hs hS8 hB.1.1 hB.1.2 hB.2.1 hO.2.1 d3 (m_134B d2.1 d2.2 h)⟩⟩)
      (fun s M hs ⟨q1, w, q2, q3⟩ => by
        have hYM := hY' M q1
        obtain ⟨q, y1, y2⟩ := hsup c hc
        refine ⟨e_si M (P + 56) (c * 8 + s) (if (N 0 - 1 : Int32) = -1 then (if q = 0 then -1 else gi M (P + 56) ((q - 1) * 8 + s)) else N 0 - 1), ⟨FI.si q1 (Or.inr rfl), w, q2.si (by omega), q3⟩, fun n x h => ?_⟩
        · show w_Reader_readTable_15 (n + 1) 9 (N c) (N s) M x.1 x.2
          unfold w_Reader_readTable_15
          rw [q2.1, h7' M q1, N_le (by omega) (by omega)]
          refine ⟨yo9 hYM, po hYM hP, fun z => absurd z (by omega), fun _ => ⟨yo9 hYM, po hYM hP, yo9 hYM, r_takeW hYM q2 ⟨fun _ => ?_, fun z => absurd rfl z⟩⟩⟩
          exact c_82 (q := q) hP hYM q2.1 (by omega) (by omega) y1 (by rw [q1.gi (by unfold ocT; omega)]; exact y2) rfl h)
      nS 0 M (by omega) (by
        rcases hst with h | h
        · exact Or.inl ⟨hM, h⟩
        · exact Or.inr ⟨hM, h⟩)
    exact ⟨M1, a1.elim (fun z => z.1) (fun z => z.1), a1.elim (fun z => Or.inl z.2) (fun z => Or.inr z.2), a2⟩
  have tdc : ∀ c c' s', TD nS (c + 1) 0 c' s' → TD nS c nS c' s' := fun c c' s' h => by unfold TD at h ⊢; omega
  have conv : ∀ c M, ((∃ p F G H T, RO P p len b M ∧ PA P nC nS nM p0 F G H M ∧ TW P nM nS c nS F G H T M ∧ MP oM Wt J (fun S => MO p len b S ∧ PB L xs P b nC nS nM F G H M S ∧ EqT nS c nS T S) (fun S Q => ∃ n, w_Mod_takeApart_134 n 159 (N (c * nS + nS)) S Q)) ∨ (∃ w, RW P w M ∧ MP oM Wt J (fun S => Y L xs S ∧ MB w S) (fun S Q => w_Mod_takeApart_176 159 S Q))) → ((∃ p F G H T, RO P p len b M ∧ PA P nC nS nM p0 F G H M ∧ TW P nM nS (c + 1) 0 F G H T M ∧ MP oM Wt J (fun S => MO p len b S ∧ PB L xs P b nC nS nM F G H M S ∧ EqT nS (c + 1) 0 T S) (fun S Q => ∃ n, w_Mod_takeApart_134 n 159 (N ((c + 1) * nS + 0)) S Q)) ∨ (∃ w, RW P w M ∧ MP oM Wt J (fun S => Y L xs S ∧ MB w S) (fun S Q => w_Mod_takeApart_176 159 S Q))) := by
    intro c M h
    rcases h with ⟨p, F, G, H, T, h1, h2, h3, h4⟩ | h
    · refine Or.inl ⟨p, F, G, H, T, h1, h2, fun c' s' hd => h3 c' s' (tdc c c' s' hd), ?_⟩
      rw [show (c + 1) * nS + 0 = c * nS + nS by rw [Nat.succ_mul, Nat.add_zero]]
      exact h4.im fun S ⟨z1, z2, z3⟩ => ⟨z1, z2, fun c' s' hd => z3 c' s' (tdc c c' s' hd)⟩
    · exact Or.inr h
  obtain ⟨M1, ⟨a0, a1⟩, a2⟩ := lpO (W := fun n c M (Q : eM → Prop) => w_Reader_readTable_2 n 9 (N c) M Q)
    (I := fun c M => FI (ocT P) M0 M ∧ ((∃ p F G H T, RO P p len b M ∧ PA P nC nS nM p0 F G H M ∧ TW P nM nS c 0 F G H T M ∧ MP oM Wt J (fun S => MO p len b S ∧ PB L xs P b nC nS nM F G H M S ∧ EqT nS c 0 T S) (fun S Q => ∃ n, w_Mod_takeApart_134 n 159 (N (c * nS + 0)) S Q)) ∨ (∃ w, RW P w M ∧ MP oM Wt J (fun S => Y L xs S ∧ MB w S) (fun S Q => w_Mod_takeApart_176 159 S Q)))) (hi := nC)
    (fun c M hc ⟨q1, q2⟩ => by
      obtain ⟨M1, b1, b2, b3⟩ := row c hc M q1 q2
      have hr : gr M 9 0 = P := by rcases q2 with ⟨p, F, G, H, T, y1, -⟩ | ⟨w, y1, -⟩ <;> exact y1.1
      have hr1 : gr M1 9 0 = P := by rcases b2 with ⟨p, F, G, H, T, y1, -⟩ | ⟨w, y1, -⟩ <;> exact y1.1
      refine ⟨M1, ⟨b1, conv c M1 b2⟩, fun n Q h => ?_⟩
      unfold w_Reader_readTable_2
      rw [hr, h2' M q1, N_le (by omega) (by omega)]
      refine ⟨yo9 (hY' M q1), po (hY' M q1) hP, fun z => absurd z (by omega), fun _ => b3 (Q, _) ⟨1, ?_⟩⟩
      unfold w_Reader_readTable_15
      rw [hr1, h7' M1 b1]
      refine ⟨yo9 (hY' M1 b1), po (hY' M1 b1) hP, fun _ => ?_, fun z => absurd (Int32.le_refl _) z⟩
      show w_Reader_readTable_2 n 9 (N c + N 1) M1 Q
      rw [N_add]; exact h)
    nC 0 M0 (by omega) ⟨FI.rf _, by
      rcases hin with ⟨p, F, G, H, y1, y2, y3⟩ | ⟨w, y1, y2⟩
      · refine Or.inl ⟨p, F, G, H, fun _ _ => 0, y1, y2, fun c' s' hd => by unfold TD at hd; omega, ?_⟩
        rw [show 0 * nS + 0 = 0 by omega]
        exact y3.st fun S ⟨z1, z2⟩ => ⟨S, FI.rf S, ⟨z1, z2, fun c' s' hd => by unfold TD at hd; omega⟩, fun Q hQ => hQ⟩
      · exact Or.inr ⟨w, y1, hE w y2⟩⟩
  refine ⟨M1, a0, fun Q hQ => a2 Q ⟨1, ?_⟩, ?_⟩
  · have hr1 : gr M1 9 0 = P := by rcases a1 with ⟨p, F, G, H, T, y1, -⟩ | ⟨w, y1, -⟩ <;> exact y1.1
    unfold w_Reader_readTable_2
    rw [hr1, h2' M1 a0]
    exact ⟨yo9 (hY' M1 a0), po (hY' M1 a0) hP, fun _ => hQ, fun z => absurd (Int32.le_refl _) z⟩
  · rcases a1 with ⟨p, F, G, H, T, y1, y2, y3, y4⟩ | h
    · refine Or.inl ⟨p, F, G, H, T, y1, y2, y3, y4.st fun S hS => ⟨S, FI.rf S, hS, fun Q hQ => ⟨1, ?_⟩⟩⟩
      obtain ⟨hO, hB, hEq⟩ := hS
      unfold w_Mod_takeApart_134
      rw [hB.1.2, hB.2.1, N_mul, show nC * nS + 0 = nC * nS by omega]
      exact ⟨yo159 hB.1.1, yo159 hB.1.1, fun _ => hQ, fun z => absurd (Int32.le_refl _) z⟩
    · exact Or.inr h
