/-! ===== pure: where instructions begin ===== -/
theorem nar0 : vp_nar .boolean 0 = 0 := by rfl
theorem nar1 : vp_nar .boolean 1 = 1 := by rfl
theorem KM.fs {o : Nat → Nat → Prop} {D S S'} (h : KM D S) (hD : KD D) (g : FI o S S') (ho : ∀ a j, (163 ≤ a ∧ a ≤ 175) ∨ a = 177 ∨ (a = 159 ∧ (j = 11 ∨ j = 15 ∨ j = 19)) → ¬ o a j) : KM D S' := by
  obtain ⟨⟨h1, h2, h3⟩, h4, h5, h6, h7⟩ := h
  refine ⟨⟨?_, ?_, ?_⟩, fun c hc => ⟨?_, ?_, fun f hf => ?_⟩, fun s hs => ⟨?_, ?_, fun i hi => ?_⟩, fun m hm => ⟨?_, ?_, fun i hi => ?_, ?_, ?_, ?_, fun j hj => ?_⟩, fun c s hc hs => ?_⟩
  · rw [g.gi (ho _ _ (by omega))]; exact h1
  · rw [g.gi (ho _ _ (by omega))]; exact h2
  · rw [g.gi (ho _ _ (by omega))]; exact h3
  · rw [g.gi (ho _ _ (by omega))]; exact (h4 c hc).1
  · rw [g.gi (ho _ _ (by omega))]; exact (h4 c hc).2.1
  · rw [g.gi (ho _ _ (by omega))]; exact (h4 c hc).2.2 f hf
  · rw [g.gi (ho _ _ (by omega))]; exact (h5 s hs).1
  · rw [g.gi (ho _ _ (by omega))]; exact (h5 s hs).2.1
  · rw [g.gi (ho _ _ (by omega))]; exact (h5 s hs).2.2 i hi
  · rw [g.gi (ho _ _ (by omega))]; exact (h6 m hm).1
  · rw [g.gi (ho _ _ (by omega))]; exact (h6 m hm).2.1
  · rw [g.gi (ho _ _ (by omega))]; exact (h6 m hm).2.2.1 i hi
  · rw [g.gi (ho _ _ (by omega))]; exact (h6 m hm).2.2.2.1
  · rw [g.gi (ho _ _ (by omega))]; exact (h6 m hm).2.2.2.2.1
  · rw [g.gi (ho _ _ (by omega))]; exact (h6 m hm).2.2.2.2.2.1
  · rw [g.gi (ho _ _ (by omega))]; exact (h6 m hm).2.2.2.2.2.2 j hj
  · rw [g.gi (ho _ _ (by omega))]; exact h7 c s hc hs
abbrev omB (m : Nat) : Nat → Nat → Prop := fun a j => a = 176 ∧ 120 * m ≤ j ∧ j < 120 * m + 120
/-- the model's begins of a method -/
def BM1 (D : eF) (m : Nat) (S : eM) : Prop := ∀ j, j < 120 → (bg D m j → gi S 176 (120 * m + j) = 1) ∧ (¬ bg D m j → gi S 176 (120 * m + j) = 0)
theorem m_walk {L xs D m} (hD : KD D) (hm : m < D 0 2) : ∀ n p S, D 174 m < p + n → p ≤ D 174 m → Y L xs S → KM D S → bgW D m p → (∀ j, j < 120 → (j < p → (bg D m j → gi S 176 (120 * m + j) = 1) ∧ (¬ bg D m j → gi S 176 (120 * m + j) = 0)) ∧ (p ≤ j → gi S 176 (120 * m + j) = 0)) → ∃ S1, FI (omB m) S S1 ∧ BM1 D m S1 ∧ ∀ Q : eM → Prop, Q S1 → ∃ k, w_Mod_findBegins_28 k 159 (N m) (N p) S Q := by
  have h1 := hD.1
  have h2 := (hD.2.2.2.1 m hm).1
  intro n
  induction n with
  | zero => intro p S hn hp; omega
  | succ n ih =>
    intro p S hn hp hY hK hW hI
    have hz := (hK.2.2.2.1 m hm).2.2.2.2.2.1
    by_cases c : p = D 174 m
    · refine ⟨S, FI.rf S, fun j hj => ?_, fun Q hQ => ⟨1, ?_⟩⟩
      · by_cases c : j < p
        · exact (hI j hj).1 c
        · exact ⟨fun hb => by have := bg_lt hb; omega, fun _ => (hI j hj).2 (by omega)⟩
      · unfold w_Mod_findBegins_28
        simp (disch := omega) only [N_lit, N_lt, yo159 hY, true_and, yr159_25 hY, yi174 hY, N_in, N_nat, hz, N_le]
        exact ⟨fun c => absurd c (by omega), fun _ => ⟨by omega, fun _ => hQ, fun c => absurd (by omega) c⟩⟩
    · obtain ⟨b0, b1, b2⟩ := bgW_st (by omega) hW (by omega : p < D 174 m)
      have fS : FI (omB m) S (e_si S 176 (120 * m + p) 1) := FI.si (FI.rf S) (by unfold omB; omega)
      have hY1 : Y L xs (e_si S 176 (120 * m + p) 1) := hY.si (by omega)
      have hK1 : KM D (e_si S 176 (120 * m + p) 1) := hK.fs hD fS (fun a j h => by unfold omB; omega)
      have go : ∀ k (Q : eM → Prop), (if il D m p = 0 then w_Mod_findBegins_28 k 159 (N m) (-1) (e_si S 176 (120 * m + p) 1) Q else w_Mod_findBegins_28 k 159 (N m) (N (p + il D m p)) (e_si S 176 (120 * m + p) 1) Q) → w_Mod_findBegins_28 (k + 1) 159 (N m) (N p) S Q := by
        intro k Q h
        unfold w_Mod_findBegins_28
        simp (disch := omega) only [N_lit, N_lt, yo159 hY, true_and, yr159_25 hY, yi174 hY, N_in, N_nat, hz, N_le, yr159_27 hY, ya176 hY, N_mul, N_add]
        refine ⟨fun c => absurd c (by omega), fun _ => ⟨by omega, fun c => absurd c (by omega), fun _ => ⟨by omega, fun M4 e => ?_⟩⟩⟩
        have e : M4 = e_si S 176 (120 * m + p) 1 := e
        subst e
        refine ⟨yo159 hY1, m_longOf hY1 hD hK1 hm (by omega) ?_⟩
        by_cases e0 : il D m p = 0
        · rw [if_pos e0] at h ⊢
          exact ⟨fun z => absurd rfl z, fun _ => h⟩
        · rw [if_neg e0] at h ⊢
          have := (il_le e0).2
          refine ⟨fun _ => ?_, fun z => by rw [N_neg' (by omega)] at z; exact z.elim⟩
          show w_Mod_findBegins_28 k 159 (N m) (N p + N (il D m p)) (e_si S 176 (120 * m + p) 1) Q
          rw [N_add]; exact h
      by_cases e0 : il D m p = 0
      · refine ⟨_, fS, fun j hj => ?_, fun Q hQ => ⟨1 + 1, go 1 Q ?_⟩⟩
        · by_cases ej : j = p
          · subst ej; rw [gs]; exact ⟨fun _ => rfl, fun z => absurd b0 z⟩
          · rw [gd (by omega)]
            by_cases cj : j < p
            · exact (hI j hj).1 cj
            · exact ⟨fun hb => absurd hb (b1 e0 j (by omega)), fun _ => (hI j hj).2 (by omega)⟩
        · rw [if_pos e0]
          unfold w_Mod_findBegins_28
          exact ⟨fun _ => hQ, fun c => absurd (by decide) c⟩
      · obtain ⟨b3, b4⟩ := b2 e0
        have hle := (il_le e0).2.1
        obtain ⟨S1, a1, a2, a3⟩ := ih (p + il D m p) (e_si S 176 (120 * m + p) 1) (by omega) hle hY1 hK1 b3 (fun j hj => by
          refine ⟨fun cj => ?_, fun cj => by rw [gd (by omega)]; exact (hI j hj).2 (by omega)⟩
          by_cases ej : j = p
          · subst ej; rw [gs]; exact ⟨fun _ => rfl, fun z => absurd b0 z⟩
          · rw [gd (by omega)]
            by_cases ck : j < p
            · exact (hI j hj).1 ck
            · exact ⟨fun hb => absurd hb (b4 j (by omega) cj), fun _ => (hI j hj).2 (by omega)⟩)
        refine ⟨S1, FI.t2 fS a1, a2, fun Q hQ => ?_⟩
        obtain ⟨k, hk⟩ := a3 Q hQ
        exact ⟨k + 1, go k Q (by rw [if_neg e0]; exact hk)⟩
theorem m_begins {L xs D m S} (hD : KD D) (hm : m < D 0 2) (hY : Y L xs S) (hK : KM D S) : ∃ S1, FI (omB m) S S1 ∧ BM1 D m S1 ∧ ∀ Q : eM → Prop, Q S1 → w_Mod_findBegins 159 (N m) S Q := by
  have h1 := hD.1
  obtain ⟨S1, ⟨a1, a2⟩, a3⟩ := lpO (W := fun n p S (Q : eM → Prop) => w_Mod_findBegins_2 n 159 (N m) (N p) S Q) (I := fun p S1 => FI (omB m) S S1 ∧ ∀ j, j < p → gi S1 176 (120 * m + j) = 0) (hi := 120) (fun p S1 hp ⟨q1, q2⟩ => by
    have hY1 : Y L xs S1 := q1.Y (fun a j ha => by unfold omB; omega) hY
    refine ⟨e_si S1 176 (120 * m + p) 0, ⟨FI.si q1 (by unfold omB; omega), fun j hj => ?_⟩, fun n Q hn => ?_⟩
    · by_cases e : j = p
      · subst e; rw [gs]
      · rw [gd (by omega)]; exact q2 j (by omega)
    · unfold w_Mod_findBegins_2
      simp (disch := omega) only [N_lit, N_le, yo159 hY1, true_and, yr159_27 hY1, ya176 hY1, N_mul, N_add, N_in, N_nat]
      refine ⟨fun c => absurd c (by omega), fun _ => ⟨by omega, fun M3 e => ?_⟩⟩
      have e : M3 = e_si S1 176 (120 * m + p) 0 := e
      subst e
      exact hn) 120 0 S (by omega) ⟨FI.rf S, fun j hj => by omega⟩
  have hY1 : Y L xs S1 := a1.Y (fun a j ha => by unfold omB; omega) hY
  have hK1 : KM D S1 := hK.fs hD a1 (fun a j h => by unfold omB; omega)
  obtain ⟨S2, b1, b2, b3⟩ := m_walk hD hm 121 0 S1 (by have := (hD.2.2.2.1 m hm).1; omega) (by omega) hY1 hK1 bgW_0 (fun j hj => ⟨fun c => by omega, fun _ => a2 j hj⟩)
  refine ⟨S2, FI.t2 a1 b1, b2, fun Q hQ => a3 Q ⟨1, ?_⟩⟩
  unfold w_Mod_findBegins_2
  exact ⟨fun _ => b3 Q hQ, fun c => absurd (Int32.le_refl _) c⟩
/-! the class -/
theorem KC.fi {o : Nat → Nat → Prop} {P D M M'} (h : KC P D M) (hD : KD D) (g : FI o M M') (ho : ∀ a j, (a = P ∧ (j = 1 ∨ j = 2 ∨ j = 7 ∨ j = 9)) ∨ (P + 1 ≤ a ∧ a ≤ P + 56) → ¬ o a j) : KC P D M' := by
  have hd := hD.1
  obtain ⟨⟨h1, h2, h3, h3'⟩, h4, h5, h6, h7, h8⟩ := h
  refine ⟨⟨?_, ?_, ?_, ?_⟩, fun j hj => ?_, fun c hc => ⟨?_, ?_, fun f hf => ?_⟩, fun s hs => ⟨?_, ?_, fun i hi => ?_⟩, fun m hm => ⟨?_, ?_, fun i hi => ?_, ?_, ?_, ?_, ?_⟩, fun c s hc hs => ?_⟩
  · rw [g.gi (ho _ _ (by omega))]; exact h1
  · rw [g.gi (ho _ _ (by omega))]; exact h2
  · rw [g.gi (ho _ _ (by omega))]; exact h3
  · rw [g.gi (ho _ _ (by omega))]; exact h3'
  · rw [g.gi (ho _ _ (by omega))]; exact h4 j hj
  · rw [g.gi (ho _ _ (by omega))]; exact (h5 c hc).1
  · rw [g.gi (ho _ _ (by omega))]; exact (h5 c hc).2.1
  · rw [g.gi (ho _ _ (by omega))]; exact (h5 c hc).2.2 f hf
  · rw [g.gi (ho _ _ (by omega))]; exact (h6 s hs).1
  · rw [g.gi (ho _ _ (by omega))]; exact (h6 s hs).2.1
  · rw [g.gi (ho _ _ (by omega))]; exact (h6 s hs).2.2 i hi
  · rw [g.gi (ho _ _ (by omega))]; exact (h7 m hm).1
  · rw [g.gi (ho _ _ (by omega))]; exact (h7 m hm).2.1
  · rw [g.gi (ho _ _ (by omega))]; exact (h7 m hm).2.2.1 i hi
  · rw [g.gi (ho _ _ (by omega))]; exact (h7 m hm).2.2.2.1
  · rw [g.gi (ho _ _ (by omega))]; exact (h7 m hm).2.2.2.2.1
  · rw [g.gi (ho _ _ (by omega))]; exact (h7 m hm).2.2.2.2.2.1
  · rw [g.gi (ho _ _ (by omega))]; exact (h7 m hm).2.2.2.2.2.2
  · rw [g.gi (ho _ _ (by omega))]; exact h8 c s hc hs
theorem KC.b {P D M} (h : KC P D M) (hD : KD D) {m p : Nat} (hm : m < D 0 2) (hp : p < D 174 m) : gi M (P + 1) (D 5 m + p) = N (cdD D m p) ∧ cdD D m p < 256 ∧ D 5 m + p < 1500 := by
  have h1 := hD.1
  have h2 := (hD.2.2.2.1 m hm).1
  exact ⟨h.2.1 _ (by omega), h1.2.2.2.2.2 _ (by omega), by omega⟩
theorem c_fill {L xs a lo hi n v M kc ks} (hY : Y L xs M) (h8 : 8 ≤ a) (ha : a < 210) (hl : y_lay.getD (a - 8) (0, 0) = (20, n)) (h1 : lo ≤ hi) (h2 : hi ≤ n) (h3 : n < 1000000) : ∃ M1, FI (fun b j => b = a ∧ lo ≤ j ∧ j < hi) M M1 ∧ (∀ j, lo ≤ j → j < hi → gi M1 a j = v) ∧ ∀ Q : eM → Prop, Q M1 → w_Arr_fill_234 kc ks a (N lo) (N hi) v M Q := by
  obtain ⟨M1, ⟨a1, a2, -⟩, a3⟩ := lpO (W := fun k j M (Q : eM → Prop) => w_Arr_fill_234_10 k (kc - 0) (ks - 0) a (N hi) v (N j) M Q) (I := fun j M1 => FI (fun b j => b = a ∧ lo ≤ j ∧ j < hi) M M1 ∧ (∀ i, lo ≤ i → i < j → gi M1 a i = v) ∧ lo ≤ j) (hi := hi) (fun j M1 hj ⟨q1, q2, q3⟩ => by
    have hY1 : Y L xs M1 := q1.Y (fun b j hb => by omega) hY
    refine ⟨e_si M1 a j v, ⟨FI.si q1 ⟨rfl, q3, hj⟩, fun i z1 z2 => ?_, by omega⟩, fun k Q hk => ?_⟩
    · by_cases e : i = j
      · subst e; rw [gs]
      · rw [gd (by omega)]; exact q2 i z1 (by omega)
    · unfold w_Arr_fill_234_10
      simp (disch := omega) only [N_lit, N_le, N_nat, hY1.ar a 20 n (N j) h8 ha hl, N_in, forall_eq, N_add]
      exact ⟨fun c => absurd c (by omega), fun _ => ⟨by omega, hk⟩⟩) (hi - lo) lo M (by omega) ⟨FI.rf M, fun i z1 z2 => by omega, Nat.le_refl _⟩
  refine ⟨M1, a1, a2, fun Q hQ => ?_⟩
  have hk := hY.kn a h8 ha
  rw [hl] at hk
  have hM := hY.1.1
  unfold w_Arr_fill_234
  refine ⟨Or.inl ⟨by omega, by omega, by show (M.2.1 a).1 = 20; rw [hk]⟩, 0, 0, Nat.zero_le _, Nat.zero_le _, ?_⟩
  have e1 : Int32.ofNat (gn M a) = N n := by show N (M.2.1 a).2 = N n; rw [hk]
  rw [e1]
  unfold w_Arr_rangeCheck
  simp (disch := omega) only [N_lit, N_le]
  refine ⟨fun _ => ⟨fun _ => ⟨fun _ => a3 Q ⟨1, ?_⟩, fun c => absurd h2 c⟩, fun c => absurd (by omega) c⟩, fun c => absurd h1 c⟩
  unfold w_Arr_fill_234_10
  exact ⟨fun _ => hQ, fun c => absurd (Int32.le_refl _) c⟩
