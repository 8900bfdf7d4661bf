theorem l_cell {L xs P p len b nC nS nM c s p0 F G H T M} (hP : PP P) (hc : c < nC) (hs : s < nS) (hY : Y L xs M) (hR : RO P p len b M) (hA : PA P nC nS nM p0 F G H M) (hT : TW P nM nS c s F G H T M) :
    ∃ M', FI (ocT P) M M' ∧ (∀ n Q k2, w_Reader_readTable_15 n 9 (N c) (N (s + 1)) M' Q k2 → w_Reader_readTable_15 (n + 1) 9 (N c) (N s) M Q k2) ∧
    ((∃ p' T', p ≤ p' ∧ RO P p' len b M' ∧ TW P nM nS c (s + 1) F G H T' M' ∧ MP oM (fun S (Q : eM → Prop) => w_Mod_readTable 159 (N c) (N s) S Q) (fun S => MO p len b S ∧ PB L xs P b nC nS nM F G H M S ∧ EqT nS c s T S) (fun S => MO p' len b S ∧ PB L xs P b nC nS nM F G H M' S ∧ EqT nS c (s + 1) T' S) (fun S Q => Q S))
    ∨ (∃ w, RW P w M' ∧ MP oM (fun S (Q : eM → Prop) => w_Mod_readTable 159 (N c) (N s) S Q) (fun S => MO p len b S ∧ PB L xs P b nC nS nM F G H M S ∧ EqT nS c s T S) (fun S => Y L xs S ∧ MB w S) (fun S Q => Q S))) := by
  have hg := hP.ge
  have hA0 := hA
  obtain ⟨⟨hC, hS8, hM16⟩, ⟨n2, n7, n9⟩, hF, hG, hH⟩ := hA
  obtain ⟨f1, f2, f3, f4, f5⟩ := hF c hc
  have r1 := hR.1
  have om : ∀ {S S' : eM}, FI omQ S S' → FI oM S S' := fun h => h.up (fun a j z => by unfold omQ at z; unfold oM; omega)
  have w15 : ∀ n Q k2, w_Reader_take 9 (N 0) (N nM) M (fun v4 M3 => ((v4 - 1) = (-1) → w_Reader_readTable_82 9 (N c) (N s) (v4 - 1) M3 Q k2 (fun l0 l1 l2 M => w_Reader_readTable_15 n l0 l1 l2 M Q k2)) ∧ (¬ (v4 - 1) = (-1) → e_ob M3 9 7 ∧ e_ob M3 (gr M3 9 0) 6 ∧ (e_ar M3 (gr M3 (gr M3 9 0) 8) 23 (N s) ∨ e_ar M3 (gr M3 (gr M3 9 0) 8) 24 (N s)) ∧ e_ob M3 9 7 ∧ e_ob M3 (gr M3 9 0) 6 ∧ (e_ar M3 (gr M3 (gr M3 9 0) 10) 23 (v4 - 1) ∨ e_ar M3 (gr M3 (gr M3 9 0) 10) 24 (v4 - 1)) ∧ e_ob M3 9 7 ∧ w_Reader_suits 9 (N c) (gr M3 (gr M3 (gr M3 9 0) 8) (N s).toNatClampNeg) (gr M3 (gr M3 (gr M3 9 0) 10) (v4 - 1).toNatClampNeg) M3 (fun v6 M5 => (¬ v6 = 0 → w_Reader_readTable_82 9 (N c) (N s) (v4 - 1) M5 Q k2 (fun l0 l1 l2 M => w_Reader_readTable_15 n l0 l1 l2 M Q k2)) ∧ (v6 = 0 → e_ob M5 9 7 ∧ e_ob M5 9 7 ∧ ∀ M7 : eM, M7 = e_si M5 9 2 ((gi M5 9 1) - 1) → w_Reader_readTable_82 9 (N c) (N s) (v4 - 1) M7 Q k2 (fun l0 l1 l2 M => w_Reader_readTable_15 n l0 l1 l2 M Q k2))))) → w_Reader_readTable_15 (n + 1) 9 (N c) (N s) M Q k2 := by
    intro n Q k2 h
    unfold w_Reader_readTable_15
    rw [r1, n7, n9, N_le (by omega) (by omega)]
    exact ⟨yo9 hY, po hY hP, fun z => absurd z (by omega), fun _ => ⟨yo9 hY, po hY hP, yo9 hY, h⟩⟩
  have wrt : ∀ S Q, Y L xs S → gi S 159 19 = N nM → w_Mod_next 159 (N 0) (N nM) S (fun v2 M1 => e_ob M1 159 12 ∧ e_ar M1 (gr M1 159 28) 20 (N (c * 8 + s)) ∧ ∀ M3 : eM, M3 = e_si M1 (gr M1 159 28) (c * 8 + s) v2 → e_ob M3 159 12 ∧ (¬ (gi M3 159 82) = 0 → w_Mod_readTable_45 M3 Q) ∧ ((gi M3 159 82) = 0 → (v2 = 0 → w_Mod_readTable_45 M3 Q) ∧ (¬ v2 = 0 → e_ob M3 159 12 ∧ w_Mod_mayStand 159 (N c) (N s) (v2 - 1) M3 (fun v5 M4 => (v5 = 0 → e_ob M4 159 12 ∧ e_ob M4 159 12 ∧ ∀ M6 : eM, M6 = e_si M4 159 81 ((gi M4 159 81) - 1) → e_ob M6 159 12 ∧ ((1 : Int32) = 0 ∨ (1 : Int32) = 1) ∧ ∀ M7 : eM, M7 = e_si M6 159 82 (1 : Int32) → Q M7) ∧ (¬ v5 = 0 → w_Mod_readTable_45 M4 Q))))) → w_Mod_readTable 159 (N c) (N s) S Q := by
    intro S Q hS hn h
    unfold w_Mod_readTable
    have e1 : (8 : Int32) * N c + N s = N (c * 8 + s) := by
      rw [show (8 : Int32) = N 8 from rfl, N_mul, N_add, Nat.mul_comm 8]
    have e2 : (N (c * 8 + s)).toNatClampNeg = c * 8 + s := N_nat (by omega)
    rw [hn, e1, e2]
    exact ⟨yo159 hS, yo159 hS, h⟩
  by_cases h1 : p < len ∧ 0 ≤ b p ∧ b p ≤ nM
  · generalize hv : b p = v at h1
    have hR1 := hR.si1 hP h1.1
    have hY1 : Y L xs (e_si M 9 1 (N (p + 1))) := hY.si (by omega)
    have fc1 : FI (ocT P) M (e_si M 9 1 (N (p + 1))) := FI.si (FI.rf M) (Or.inl rfl)
    have q1 : gi (e_si M 9 1 (N (p + 1))) (P + 2) c = N (F 163 c) - N 1 := by rw [gd (by omega)]; exact f1
    -- what holds once the cell is written
    have fin : ∀ r, (r ≤ nM) → (r = (if v ≠ 0 then v else if F 163 c = 0 then 0 else T 56 ((F 163 c - 1) * 8 + s))) → (r ≠ 0 → SU P F G H M c s (r - 1)) →
        FI (ocT P) M (e_si (e_si M 9 1 (N (p + 1))) (P + 56) (c * 8 + s) (N r - N 1)) ∧ RO P (p + 1) len b (e_si (e_si M 9 1 (N (p + 1))) (P + 56) (c * 8 + s) (N r - N 1)) ∧ TW P nM nS c (s + 1) F G H (fun a j => if j = c * 8 + s then (if a = 177 then v else r) else T a j) (e_si (e_si M 9 1 (N (p + 1))) (P + 56) (c * 8 + s) (N r - N 1)) := by
      intro r hr1 hr2 hr3
      have ff : FI (ocT P) M (e_si (e_si M 9 1 (N (p + 1))) (P + 56) (c * 8 + s) (N r - N 1)) := FI.si fc1 (Or.inr rfl)
      refine ⟨ff, hR1.si (by omega) (by omega) (by omega), fun c' s' hd => ?_⟩
      have suf : ∀ m, m < 16 → (SU P F G H (e_si (e_si M 9 1 (N (p + 1))) (P + 56) (c * 8 + s) (N r - N 1)) c' s' m ↔ SU P F G H M c' s' m) := fun m hm => SU.fi (by have := hd.1; omega) hm ff (fun a j _ _ => by unfold ocT; omega)
      by_cases e : c' = c ∧ s' = s
      · obtain ⟨rfl, rfl⟩ := e
        simp only [if_true, show ¬ (56 = 177) by decide, if_false]
        refine ⟨by rw [gs], hr1, by omega, ?_, fun z => (suf _ (by omega)).mpr (hr3 z)⟩
        rw [hr2]
        by_cases e0 : F 163 c' = 0
        · rw [if_pos e0, if_pos e0]
        · have hx : ¬ ((F 163 c' - 1) * 8 + s' = c' * 8 + s') := by omega
          rw [if_neg e0, if_neg e0, if_neg hx]
      · have hd' : TD nS c s c' s' := by unfold TD at hd ⊢; omega
        obtain ⟨t1, t2, t3, t4, t5⟩ := hT c' s' hd'
        have hne : ¬ (c' * 8 + s' = c * 8 + s) := by unfold TD at hd; omega
        have hcc : c' < nC := by unfold TD at hd; omega
        have hpar := (hF c' hcc).2.2.2.1.1
        have hne2 : F 163 c' ≠ 0 → ¬ ((F 163 c' - 1) * 8 + s' = c * 8 + s) := by unfold TD at hd; omega
        simp only [if_neg hne]
        refine ⟨by rw [gd (by omega), gd (by omega)]; exact t1, t2, t3, ?_, fun z => (suf _ (by omega)).mpr (t5 z)⟩
        rw [t4]
        by_cases e0 : F 163 c' = 0
        · rw [if_pos e0, if_pos e0]
        · rw [if_neg e0, if_neg e0, if_neg (hne2 e0)]
    have ms : ∀ S, MO p len b S ∧ PB L xs P b nC nS nM F G H M S ∧ EqT nS c s T S → FI omQ S (e_si (e_si S 159 81 (N (p + 1))) 177 (c * 8 + s) (N v)) ∧ MO (p + 1) len b (e_si (e_si S 159 81 (N (p + 1))) 177 (c * 8 + s) (N v)) ∧ PB L xs P b nC nS nM F G H M (e_si (e_si S 159 81 (N (p + 1))) 177 (c * 8 + s) (N v)) ∧ ∀ r, EqT nS c (s + 1) (fun a j => if j = c * 8 + s then (if a = 177 then v else r) else T a j) (e_si (e_si S 159 81 (N (p + 1))) 177 (c * 8 + s) (N v)) := by
      intro S ⟨hO, hB, hE⟩
      have fS : FI omQ S (e_si (e_si S 159 81 (N (p + 1))) 177 (c * 8 + s) (N v)) := FI.si (FI.si (FI.rf S) (by unfold omQ; omega)) (by unfold omQ; omega)
      refine ⟨fS, (hO.si1 h1.1).fi (o := fun a _ => a = 177) (FI.si (FI.rf _) rfl) (by omega) (by omega) (by omega) (by omega), hB.fs fS, fun r c' s' hd => ?_⟩
      by_cases e : c' = c ∧ s' = s
      · obtain ⟨rfl, rfl⟩ := e
        simp only [if_true]
        rw [gs]
      · have hd' : TD nS c s c' s' := by unfold TD at hd ⊢; omega
        have hne : ¬ (c' * 8 + s' = c * 8 + s) := by unfold TD at hd; omega
        simp only [if_neg hne]
        rw [gd (by omega), gd (by omega)]
        exact hE c' s' hd'
    -- the class's way, by what the byte says
    have cl0 : v = 0 → ∀ r, r = (if F 163 c = 0 then 0 else T 56 ((F 163 c - 1) * 8 + s)) → ∀ n Q k2, w_Reader_readTable_15 n 9 (N c) (N (s + 1)) (e_si (e_si M 9 1 (N (p + 1))) (P + 56) (c * 8 + s) (N r - N 1)) Q k2 → w_Reader_readTable_15 (n + 1) 9 (N c) (N s) M Q k2 := by
      intro e r hr n Q k2 h
      refine w15 n Q k2 (r_take hY hP hR (by omega) (by omega) (fun _ _ _ _ => ?_) (fun z => absurd ⟨h1.1, by omega, by omega⟩ z))
      rw [hv, e]
      refine ⟨fun _ => c_82 (q := F 163 c) hP hY1 r1 (by omega) (by omega) f4.1 q1 ?_ h, fun z => absurd rfl z⟩
      rw [if_pos (show N 0 - 1 = -1 from rfl), hr]
      by_cases e0 : F 163 c = 0
      · rw [if_pos e0, if_pos e0]; rfl
      · rw [if_neg e0, if_neg e0, gd (by omega)]
        exact ((hT (F 163 c - 1) s (by have := f4.1; unfold TD; omega)).1).symm
    have cln : v ≠ 0 → ∀ n Q k2, (SU P F G H M c s (v - 1) → w_Reader_readTable_15 n 9 (N c) (N (s + 1)) (e_si (e_si M 9 1 (N (p + 1))) (P + 56) (c * 8 + s) (N v - N 1)) Q k2) → (¬ SU P F G H M c s (v - 1) → w_Reader_readTable_15 n 9 (N c) (N (s + 1)) (e_si (e_si (e_si M 9 1 (N (p + 1))) 9 2 (N p)) (P + 56) (c * 8 + s) (N v - N 1)) Q k2) → w_Reader_readTable_15 (n + 1) 9 (N c) (N s) M Q k2 := by
      intro e n Q k2 ha hb
      refine w15 n Q k2 (r_take hY hP hR (by omega) (by omega) (fun _ _ _ _ => ?_) (fun z => absurd ⟨h1.1, by omega, by omega⟩ z))
      rw [hv]
      have e1 : N v - N 1 = N (v - 1) := N_sub (by omega)
      have e2 : N v - 1 = N (v - 1) := e1
      rw [e1] at ha hb
      rw [e2]
      refine ⟨fun z => by rw [N_neg (by omega)] at z; exact z.elim, fun _ => ?_⟩
      have hA1 := hA0.fi hP fc1
      have suf : SU P F G H (e_si M 9 1 (N (p + 1))) c s (v - 1) ↔ SU P F G H M c s (v - 1) := SU.fi (by omega) (by omega) fc1 (fun a j _ _ => by unfold ocT; omega)
      simp (disch := omega) only [yo9 hY1, po hY1 hP, gr_si, r1, pr8 hY hP, pr10 hY hP, N_nat, psr hY hP, pmr hY hP, true_and, ar_si, pa6 hY hP, pa23 hY hP, N_in]
      refine ⟨Or.inr (by omega), Or.inr (by omega), c_suits hP hY1 r1 hC hc hs hS8 (by omega) hM16 hA1.2.2.1 hA1.2.2.2.1 hA1.2.2.2.2 (fun z => ⟨fun _ => ?_, fun y => absurd y (by decide)⟩) (fun z => ⟨fun y => absurd rfl y, fun _ => ?_⟩)⟩
      · refine c_82 (q := F 163 c) hP hY1 r1 (by omega) (by omega) f4.1 q1 ?_ (ha (suf.mp z))
        rw [if_neg (by rw [N_neg (by omega)]; exact id)]
      · refine ⟨yo9 hY1, yo9 hY1, fun M7 e => ?_⟩
        have e3 : gi (e_si M 9 1 (N (p + 1))) 9 1 - 1 = N p := by rw [gs, show (1 : Int32) = N 1 from rfl, N_sub (by omega)]; rfl
        rw [e3] at e
        subst e
        refine c_82 (q := F 163 c) hP (hY1.si (by omega)) r1 (by omega) (by omega) f4.1 (by rw [gd (by omega)]; exact q1) ?_ (hb (fun y => z (suf.mpr y)))
        rw [if_neg (by rw [N_neg (by omega)]; exact id)]
    by_cases e : v = 0
    · -- inherited
      have hrn : (if F 163 c = 0 then 0 else T 56 ((F 163 c - 1) * 8 + s)) ≤ nM ∧ ((if F 163 c = 0 then 0 else T 56 ((F 163 c - 1) * 8 + s)) ≠ 0 → SU P F G H M c s ((if F 163 c = 0 then 0 else T 56 ((F 163 c - 1) * 8 + s)) - 1)) := by
        by_cases e0 : F 163 c = 0
        · rw [if_pos e0]; exact ⟨by omega, fun z => absurd rfl z⟩
        · rw [if_neg e0]
          obtain ⟨t1, t2, t3, t4, t5⟩ := hT (F 163 c - 1) s (by have := f4.1; unfold TD; omega)
          refine ⟨t2, fun z => ?_⟩
          obtain ⟨u1, u2, u3, u4, u5⟩ := t5 z
          refine ⟨u1, u2, u3, ?_, u5⟩
          rw [hF.cl.bit hc, u4]
          simp [e0]
      obtain ⟨x1, x2, x3⟩ := fin (if F 163 c = 0 then 0 else T 56 ((F 163 c - 1) * 8 + s)) hrn.1 (by rw [if_neg (show ¬ (v ≠ 0) by omega)]) hrn.2
      refine ⟨_, x1, cl0 e _ rfl, Or.inl ⟨p + 1, _, by omega, x2, x3, fun S hS => ?_⟩⟩
      obtain ⟨y1, y2, y3, y4⟩ := ms S hS
      obtain ⟨hO, hB, hE⟩ := hS
      refine ⟨_, om y1, ⟨y2, y3.fi hP hS8 hM16 x1, y4 _⟩, fun Q hQ => wrt S Q hB.1.1 hB.2.2.1 (m_next hB.1.1 hO (by omega) (by omega) (fun _ _ _ => ?_) (fun z => absurd ⟨h1.1, by omega, by omega⟩ z))⟩
      have hS1 : Y L xs (e_si S 159 81 (N (p + 1))) := hB.1.1.si (by omega)
      rw [hv]
      rw [yr159_28 hS1, ya177 hS1, N_in (by omega)]
      refine ⟨yo159 hS1, by omega, fun M3 e3 => ?_⟩
      subst e3
      refine ⟨yo159 y3.1.1, fun z => absurd y2.2.1 z, fun _ => ⟨fun _ => hQ, fun z => absurd (by rw [e]; rfl) z⟩⟩
    · by_cases hsu : SU P F G H M c s (v - 1)
      · obtain ⟨x1, x2, x3⟩ := fin v h1.2.2 (by rw [if_pos e]) (fun _ => hsu)
        refine ⟨_, x1, fun n Q k2 h => cln e n Q k2 (fun _ => h) (fun z => absurd hsu z), Or.inl ⟨p + 1, _, by omega, x2, x3, fun S hS => ?_⟩⟩
        obtain ⟨y1, y2, y3, y4⟩ := ms S hS
        obtain ⟨hO, hB, hE⟩ := hS
        refine ⟨_, om y1, ⟨y2, y3.fi hP hS8 hM16 x1, y4 _⟩, fun Q hQ => wrt S Q hB.1.1 hB.2.2.1 (m_next hB.1.1 hO (by omega) (by omega) (fun _ _ _ => ?_) (fun z => absurd ⟨h1.1, by omega, by omega⟩ z))⟩
        have hS1 : Y L xs (e_si S 159 81 (N (p + 1))) := hB.1.1.si (by omega)
        rw [hv]
        rw [yr159_28 hS1, ya177 hS1, N_in (by omega)]
        refine ⟨yo159 hS1, by omega, fun M3 e3 => ?_⟩
        subst e3
        refine ⟨yo159 y3.1.1, fun z => absurd y2.2.1 z, fun _ => ⟨fun z => by rw [show (0 : Int32) = N 0 from rfl, N_eq (by omega) (by omega)] at z; exact absurd z e, fun _ => ⟨yo159 y3.1.1, ?_⟩⟩⟩
        have e2 : N v - 1 = N (v - 1) := by show N v - N 1 = _; exact N_sub (by omega)
        rw [e2]
        exact m_stand y3.1.1 hC hc hs hS8 (by omega) hM16 hF hG hH y3.2.2.2.1 y3.2.2.2.2.1 y3.2.2.2.2.2 (fun _ => ⟨fun z => absurd z (by decide), fun _ => hQ⟩) (fun z => absurd hsu z)
      · refine ⟨_, FI.si (FI.si fc1 (Or.inl rfl)) (Or.inr rfl), fun n Q k2 h => cln e n Q k2 (fun z => absurd z hsu) (fun _ => h), Or.inr ⟨p, ?_, fun S hS => ?_⟩⟩
        · exact RW.si ⟨r1, by rw [gs], by have := hR.2.2.2.2; omega⟩ (by omega)
        · obtain ⟨y1, y2, y3, y4⟩ := ms S hS
          obtain ⟨hO, hB, hE⟩ := hS
          have hY9 : Y L xs (e_si (e_si (e_si (e_si S 159 81 (N (p + 1))) 177 (c * 8 + s) (N v)) 159 81 (N p)) 159 82 1) := (y3.1.1.si (a := 159) (by omega)).si (by omega)
          refine ⟨_, om (FI.si (FI.si y1 (by unfold omQ; omega)) (by unfold omQ; omega)), ⟨hY9, ⟨by rw [gd (by omega), gs], by rw [gs]⟩⟩, fun Q hQ => wrt S Q hB.1.1 hB.2.2.1 (m_next hB.1.1 hO (by omega) (by omega) (fun _ _ _ => ?_) (fun z => absurd ⟨h1.1, by omega, by omega⟩ z))⟩
          have hS1 : Y L xs (e_si S 159 81 (N (p + 1))) := hB.1.1.si (by omega)
          rw [hv]
          rw [yr159_28 hS1, ya177 hS1, N_in (by omega)]
          refine ⟨yo159 hS1, by omega, fun M3 e3 => ?_⟩
          subst e3
          refine ⟨yo159 y3.1.1, fun z => absurd y2.2.1 z, fun _ => ⟨fun z => by rw [show (0 : Int32) = N 0 from rfl, N_eq (by omega) (by omega)] at z; exact absurd z e, fun _ => ⟨yo159 y3.1.1, ?_⟩⟩⟩
          have e2 : N v - 1 = N (v - 1) := by show N v - N 1 = _; exact N_sub (by omega)
          rw [e2]
          refine m_stand y3.1.1 hC hc hs hS8 (by omega) hM16 hF hG hH y3.2.2.2.1 y3.2.2.2.2.1 y3.2.2.2.2.2 (fun z => absurd z hsu) (fun _ => ⟨fun _ => ⟨yo159 y3.1.1, yo159 y3.1.1, fun M6 e6 => ?_⟩, fun z => absurd rfl z⟩)
          have e7 : gi (e_si (e_si S 159 81 (N (p + 1))) 177 (c * 8 + s) (N v)) 159 81 - 1 = N p := by rw [gd (by omega), gs, show (1 : Int32) = N 1 from rfl, N_sub (by omega)]; rfl
          rw [e7] at e6
          subst e6
          refine ⟨yo159 (y3.1.1.si (a := 159) (by omega)), by decide, fun M7 e8 => ?_⟩
          subst e8
          exact hQ
  · have hY1 : Y L xs (e_si M 9 2 (N p)) := hY.si (by omega)
    refine ⟨_, FI.si (FI.si (FI.rf M) (Or.inl rfl)) (Or.inr rfl), fun n Q k2 h => w15 n Q k2 (r_take hY hP hR (by omega) (by omega) (fun y1 y2 y3 _ => absurd ⟨y1, y2, y3⟩ h1) (fun _ => ⟨fun _ => c_82 (q := F 163 c) (s := s) hP hY1 r1 (by omega) (by omega) f4.1 (by rw [gd (by omega)]; exact f1) rfl h, fun z => absurd rfl z⟩)), Or.inr ⟨p, hR.wr.si (by omega), fun S ⟨hO, hB, hE⟩ => ?_⟩⟩
    have hB1 : MB p (e_si (e_si S 159 82 1) 177 (c * 8 + s) 0) := hO.wr.fi (o := fun a _ => a = 177) (FI.si (FI.rf _) rfl) (by omega) (by omega)
    have hS1 : Y L xs (e_si S 159 82 1) := hB.1.1.si (by omega)
    have hS2 : Y L xs (e_si (e_si S 159 82 1) 177 (c * 8 + s) 0) := hS1.si (by omega)
    refine ⟨_, om (FI.si (FI.si (FI.rf S) (by unfold omQ; omega)) (by unfold omQ; omega)), ⟨hS2, hB1⟩, fun Q hQ => wrt S Q hB.1.1 hB.2.2.1 (m_next hB.1.1 hO (by omega) (by omega) (fun y1 y2 y3 => absurd ⟨y1, y2, y3⟩ h1) (fun _ => ?_))⟩
    rw [yr159_28 hS1, ya177 hS1, N_in (by omega)]
    refine ⟨yo159 hS1, by omega, fun M3 e3 => ?_⟩
    subst e3
    refine ⟨yo159 hS2, fun _ => hQ, fun z => ?_⟩
    rw [hB1.2] at z
    exact absurd z (by decide)
