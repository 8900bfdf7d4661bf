/-! ===== pure: the model looks at all instructions ===== -/
theorem BM1.fs {o : Nat → Nat → Prop} {D m S S'} (h : BM1 D m S) (g : FI o S S') (ho : ∀ j, 120 * m ≤ j → j < 120 * m + 120 → ¬ o 176 j) : BM1 D m S' := by
  intro j hj
  rw [g.gi (ho _ (by omega) (by omega))]
  exact h j hj
theorem m_beginsAll {L xs D S} (hD : KD D) (hY : Y L xs S) (hK : KM D S) : ∃ S1, FI (fun a _ => a = 176) S S1 ∧ (∀ m, m < D 0 2 → BM1 D m S1) ∧ ∀ Q : Int32 → eM → Prop, (∃ n, w_Mod_isFine_41 n 159 (N 0) S1 Q) → ∃ n, w_Mod_isFine_20 n 159 (N 0) S Q := by
  have hd := hD.1
  obtain ⟨S1, ⟨a1, a2⟩, a3⟩ := lpO (W := fun n m S (Q : Int32 → eM → Prop) => w_Mod_isFine_20 n 159 (N m) S Q) (I := fun m S1 => FI (fun a _ => a = 176) S S1 ∧ ∀ m', m' < m → BM1 D m' S1) (hi := D 0 2) (fun m S1 hm ⟨q1, q2⟩ => by
    have hY1 : Y L xs S1 := q1.Y (fun a j ha => by omega) hY
    have hK1 : KM D S1 := hK.fs hD q1 (fun a j h => by omega)
    obtain ⟨S2, b1, b2, b3⟩ := m_begins hD hm hY1 hK1
    refine ⟨S2, ⟨FI.t2 q1 (b1.up (fun a j h => by unfold omB at h; omega)), fun m' hm' => ?_⟩, fun n Q hn => ?_⟩
    · by_cases e : m' = m
      · subst e; exact b2
      · exact (q2 m' (by omega)).fs b1 (fun j _ _ => by unfold omB; omega)
    · unfold w_Mod_isFine_20
      rw [hK1.1.2.2, N_le (by omega) (by omega)]
      refine ⟨yo159 hY1, fun c => absurd c (by omega), fun _ => ⟨yo159 hY1, b3 _ ?_⟩⟩
      show w_Mod_isFine_20 n 159 (N m + N 1) S2 Q
      rw [N_add]; exact hn) (D 0 2) 0 S (by omega) ⟨FI.rf S, fun m' h => by omega⟩
  refine ⟨S1, a1, a2, fun Q hQ => a3 Q ⟨1, ?_⟩⟩
  have hY1 : Y L xs S1 := a1.Y (fun a j ha => by omega) hY
  have hK1 : KM D S1 := hK.fs hD a1 (fun a j h => by omega)
  unfold w_Mod_isFine_20
  rw [hK1.1.2.2]
  exact ⟨yo159 hY1, fun _ => hQ, fun c => absurd (Int32.le_refl _) c⟩
theorem m_findFault {L xs S Q} {a b c : Int32} (hY : Y L xs S) (h : Q 0 (e_si (e_si (e_si S 159 8 a) 159 10 b) 159 9 c)) : w_Mod_findFault 159 a b c S Q := by
  refine ⟨yo159 hY, fun M1 e1 => ?_⟩
  subst e1
  refine ⟨yo159 (hY.si (by omega)), fun M2 e2 => ?_⟩
  subst e2
  refine ⟨yo159 ((hY.si (a := 159) (by omega)).si (by omega)), fun M3 e3 => ?_⟩
  subst e3
  exact ⟨Or.inl rfl, h⟩
theorem m_look {L xs D S m} (hD : KD D) (hY : Y L xs S) (hK : KM D S) (hB : BM1 D m S) (hm : m < D 0 2) : ∀ p, p < D 174 m → ∀ k (Q : Int32 → eM → Prop) k41, ((bg D m p → good D m p) → w_Mod_isFine_51 k 159 (N m) (N (p + 1)) S Q k41) → (¬ (bg D m p → good D m p) → Q 0 (e_si (e_si (e_si S 159 8 2) 159 10 (N m)) 159 9 (N p))) → w_Mod_isFine_51 (k + 1) 159 (N m) (N p) S Q k41 := by
  have hd := hD.1
  have h2 := (hD.2.2.2.1 m hm).1
  have hz := (hK.2.2.2.1 m hm).2.2.2.2.2.1
  intro p hp k Q k41 ha hb
  unfold w_Mod_isFine_51 w_Mod_isFine_92
  simp (disch := omega) only [N_lit, yo159 hY, true_and, yr159_25 hY, yi174 hY, N_in, N_nat, hz, N_le, yr159_27 hY, ya176 hY, N_mul, N_add]
  refine ⟨by omega, fun c => absurd c (by omega), fun _ => ⟨by omega, fun e => ha (fun hbg => ?_), fun e => ?_⟩⟩
  · rw [(hB p (by omega)).1 hbg] at e
    exact absurd e (by decide)
  · have hbg : bg D m p := by
      by_cases hb : bg D m p
      · exact hb
      · exact absurd ((hB p (by omega)).2 hb) e
    refine m_good hY hD hK hB hm hp (fun z => ⟨fun _ => ha (fun _ => z), fun y => absurd y (by decide)⟩) (fun z => ⟨fun y => absurd rfl y, fun _ => ⟨yo159 hY, m_findFault hY ⟨Or.inl rfl, ?_⟩⟩⟩)
    exact hb (fun y => z (y hbg))
theorem m_41ok {L xs D S} (hD : KD D) (hY : Y L xs S) (hK : KM D S) (hB : ∀ m, m < D 0 2 → BM1 D m S) (hi : Nat) (hhi : hi ≤ D 0 2) (hok : ∀ m, m < hi → okD D m) (Q : Int32 → eM → Prop) (h : ∃ n, w_Mod_isFine_41 n 159 (N hi) S Q) : ∃ n, w_Mod_isFine_41 n 159 (N 0) S Q := by
  have hd := hD.1
  obtain ⟨S1, a1, a3⟩ := lpO (W := fun n m S (Q : Int32 → eM → Prop) => w_Mod_isFine_41 n 159 (N m) S Q) (I := fun m S1 => S1 = S) (hi := hi) (fun m S1 hm e => by
    subst e
    refine ⟨S1, rfl, fun n Q hn => ?_⟩
    have hz := (hK.2.2.2.1 m (by omega)).2.2.2.2.2.1
    have h2 := (hD.2.2.2.1 m (by omega)).1
    unfold w_Mod_isFine_41
    rw [hK.1.2.2, N_le (by omega) (by omega)]
    refine ⟨yo159 hY, fun c => absurd c (by omega), fun _ => allLq (p := fun p => bg D m p → good D m p) (W := fun k p => w_Mod_isFine_51 k 159 (N m) (N p) S1 Q (fun l0 l1 M => w_Mod_isFine_41 n l0 l1 M Q)) (Z := fun p => Q 0 (e_si (e_si (e_si S1 159 8 2) 159 10 (N m)) 159 9 (N p))) (hi := D 174 m) (fun p hp k => m_look hD hY hK (hB m (by omega)) (by omega) p hp k Q _) (fun _ => ⟨1, ?_⟩) (fun p hp _ h => absurd (hok m hm p) h)⟩
    unfold w_Mod_isFine_51
    simp (disch := omega) only [yo159 hY, true_and, yr159_25 hY, yi174 hY, N_in, N_nat, hz]
    refine ⟨by omega, fun _ => ?_, fun c => absurd (Int32.le_refl _) c⟩
    show w_Mod_isFine_41 n 159 (N m + N 1) S1 Q
    rw [N_add]; exact hn) hi 0 S (by omega) rfl
  subst a1
  exact a3 Q h
/-- the model's second look at a file: all is good, or not -/
theorem m_decode {L xs D S} (hD : KD D) (hY : Y L xs S) (hK : KM D S) : ∃ S1, FI (fun a _ => a = 176) S S1 ∧ (∀ m, m < D 0 2 → BM1 D m S1) ∧
    ((∀ m, m < D 0 2 → okD D m) → ∀ Q : Int32 → eM → Prop, (∃ n, w_Mod_isFine_106 n 159 (N 0) S1 Q) → ∃ n, w_Mod_isFine_20 n 159 (N 0) S Q) ∧
    (∀ m p, FB D m p → ∀ Q : Int32 → eM → Prop, Q 0 (e_si (e_si (e_si S1 159 8 2) 159 10 (N m)) 159 9 (N p)) → ∃ n, w_Mod_isFine_20 n 159 (N 0) S Q) := by
  have hd := hD.1
  obtain ⟨S1, a1, a2, a3⟩ := m_beginsAll hD hY hK
  have hY1 : Y L xs S1 := a1.Y (fun a j ha => by omega) hY
  have hK1 : KM D S1 := hK.fs hD a1 (fun a j h => by omega)
  refine ⟨S1, a1, a2, fun hok Q hQ => a3 Q (m_41ok hD hY1 hK1 a2 (D 0 2) (Nat.le_refl _) hok Q ⟨1, ?_⟩), fun m p ⟨f1, f2, f3, f4, f5⟩ Q hQ => a3 Q (m_41ok hD hY1 hK1 a2 m (by omega) f5 Q ⟨1, ?_⟩)⟩
  · unfold w_Mod_isFine_41
    rw [hK1.1.2.2]
    exact ⟨yo159 hY1, fun _ => hQ, fun c => absurd (Int32.le_refl _) c⟩
  · unfold w_Mod_isFine_41
    rw [hK1.1.2.2, N_le (by omega) (by omega)]
    have hnp : ¬ (bg D m p → good D m p) := fun z => f3 (z f2)
    refine ⟨yo159 hY1, fun c => absurd c (by omega), fun _ => allLq (p := fun p => bg D m p → good D m p) (W := fun k p => w_Mod_isFine_51 k 159 (N m) (N p) S1 Q (fun l0 l1 M => w_Mod_isFine_41 0 l0 l1 M Q)) (Z := fun p => Q 0 (e_si (e_si (e_si S1 159 8 2) 159 10 (N m)) 159 9 (N p))) (hi := D 174 m) (fun p hp k => m_look hD hY1 hK1 (a2 m f1) f1 p hp k Q _) (fun z => absurd (z p (bg_lt f2)) hnp) (fun p' hp' hq hn => ?_)⟩
    have : p' = p := by
      by_cases c : p' < p
      · exact absurd (f4 p' c) hn
      · by_cases c2 : p < p'
        · exact absurd (hq p c2) hnp
        · omega
    subst this
    exact hQ
