/-! ===== pure: all instructions are looked at ===== -/
theorem allLq {p : Nat → Prop} {W : Nat → Nat → Prop} {Z : Nat → Prop} {hi : Nat} (step : ∀ i, i < hi → ∀ k, (p i → W k (i + 1)) → (¬ p i → Z i) → W (k + 1) i) (ex : (∀ i, i < hi → p i) → ∃ k, W k hi) (hZ : ∀ i, i < hi → (∀ i', i' < i → p i') → ¬ p i → Z i) : ∃ k, W k 0 := by
  have : ∀ r i, i + r = hi → (∀ i', i' < i → p i') → ∃ k, W k i := by
    intro r
    induction r with
    | zero =>
      intro i hr h
      have : i = hi := by omega
      subst this
      exact ex h
    | succ r ih =>
      intro i hr h
      by_cases c : p i
      · obtain ⟨k, hk⟩ := ih (i + 1) (by omega) (fun i' hi' => by
          by_cases e : i' = i
          · subst e; exact c
          · exact h i' (by omega))
        exact ⟨k + 1, step i (by omega) k (fun _ => hk) (fun z => absurd c z)⟩
      · exact ⟨1, step i (by omega) 0 (fun z => absurd z c) (fun _ => hZ i (by omega) h c)⟩
  exact this hi 0 (by omega) (fun i' hi' => by omega)
/-- all instructions of a method are good -/
def okD (D : eF) (m : Nat) : Prop := ∀ p, bg D m p → good D m p
/-- the first that isn't -/
def FB (D : eF) (m p : Nat) : Prop := m < D 0 2 ∧ bg D m p ∧ ¬ good D m p ∧ (∀ p', p' < p → bg D m p' → good D m p') ∧ ∀ m', m' < m → okD D m'
abbrev oDa (P : Nat) : Nat → Nat → Prop := fun a j => (a = 10 ∧ (j = 0 ∨ j = 1)) ∨ (a = P ∧ j = 14) ∨ a = P + 57 ∨ a = P + 58
theorem BC1.fi {o : Nat → Nat → Prop} {P D m M M'} (h : BC1 P D m M) (g : FI o M M') (ho : ∀ j, D 5 m ≤ j → j < D 5 m + D 174 m → ¬ o (P + 57) j) : BC1 P D m M' := by
  intro j hj
  rw [g.gi (ho _ (by omega) (by omega))]
  exact h j hj
theorem SI.fi {o : Nat → Nat → Prop} {P D m p a M M'} (h : SI P D m p a M) (g : FI o M M') (h1 : ¬ o P 14) (ho : ∀ j, ¬ o (P + 58) j) : SI P D m p a M' := by
  obtain ⟨cnt, sf, s1, s2, s3, s4⟩ := h
  exact ⟨cnt, sf, by rw [g.gi h1]; exact s1, s2, fun m' j' a1 a2 a3 => by rw [g.gi (ho _)]; exact s3 m' j' a1 a2 a3, s4⟩
theorem SI.nx {P D m a a' M} (h : SI P D m (D 174 m) a M) (ha : a ≤ a') : SI P D (m + 1) 0 a' M := by
  obtain ⟨cnt, sf, s1, s2, s3, s4⟩ := h
  have hp : ∀ m' j', PRc D (m + 1) 0 m' j' → PRc D m (D 174 m) m' j' := by
    intro m' j' ⟨h1, h2, h3⟩
    refine ⟨h1, h2, ?_⟩
    by_cases e : m' = m
    · subst e; exact Or.inr ⟨rfl, h2⟩
    · exact Or.inl (by omega)
  exact ⟨cnt, sf, s1, by omega, fun m' j' a1 a2 a3 => s3 m' j' (hp m' j' a1) a2 a3, fun m1 j1 m2 j2 a1 a2 => s4 m1 j1 m2 j2 (hp _ _ a1) (hp _ _ a2)⟩
theorem c_decode {L xs P D M kc ks} (hP : PP P) (hY : Y L xs M) (hD : KD D) (hK : KC P D M) :
    ∃ v M1, FI (oDa P) (e_sr M 10 2 P) M1 ∧ (∀ Q : Int32 → eM → Prop, Q v M1 → w_Decoder_findsFault kc ks 10 P M Q) ∧
    ((v = 0 ∧ (∀ m, m < D 0 2 → okD D m) ∧ (∀ m, m < D 0 2 → BC1 P D m M1) ∧ SI P D (D 0 2) 0 1500 M1) ∨ (v = 1 ∧ ∃ m p, FB D m p ∧ gi M1 10 0 = N m ∧ gi M1 10 1 = N p)) := by
  have hg := hP.ge
  have hd := hD.1
  have hYr : Y L xs (e_sr M 10 2 P) := hY.sr y_no102
  have hr0 : gr (e_sr M 10 2 P) 10 2 = P := by rw [gr_sr, if_pos ⟨rfl, rfl⟩]
  have hKr : KC P D (e_sr M 10 2 P) := hK
  have hK0 : KC P D (e_si (e_sr M 10 2 P) P 14 0) := hKr.fi hD (FI.si (o := fun a j => a = P ∧ j = 14) (FI.rf _) ⟨rfl, rfl⟩) (fun a j h => by omega)
  -- method by method
  have loop : ∀ r m M0, m + r = D 0 2 → FI (oDa P) (e_sr M 10 2 P) M0 → (∀ m', m' < m → okD D m') → (∀ m', m' < m → BC1 P D m' M0) → (∃ a, SI P D m 0 a M0 ∧ a ≤ 1500 ∧ (m < D 0 2 → a ≤ D 5 m)) →
      ∃ v M1, FI (oDa P) (e_sr M 10 2 P) M1 ∧ (∀ Q : Int32 → eM → Prop, Q v M1 → ∃ n, w_Decoder_findsFault_15 n kc ks 10 (N m) M0 Q) ∧ ((v = 0 ∧ (∀ m, m < D 0 2 → okD D m) ∧ (∀ m, m < D 0 2 → BC1 P D m M1) ∧ SI P D (D 0 2) 0 1500 M1) ∨ (v = 1 ∧ ∃ m p, FB D m p ∧ gi M1 10 0 = N m ∧ gi M1 10 1 = N p)) := by
    intro r
    induction r with
    | zero =>
      intro m M0 hm hf hok hbc hsi
      have e : m = D 0 2 := by omega
      subst e
      obtain ⟨a, s1, s2, -⟩ := hsi
      have hY0 : Y L xs M0 := hf.Y (fun a j ha => by unfold oDa; omega) hYr
      have hK0 : KC P D M0 := hKr.fi hD hf (fun a j h => by unfold oDa; omega)
      have hr : gr M0 10 2 = P := by rw [hf.gr]; exact hr0
      refine ⟨0, M0, hf, fun Q hQ => ⟨1, ?_⟩, Or.inl ⟨rfl, hok, hbc, ?_⟩⟩
      · unfold w_Decoder_findsFault_15
        rw [hr, hK0.1.2.2.2]
        exact ⟨yo10 hY0, po hY0 hP, fun _ => ⟨Or.inl rfl, hQ⟩, fun c => absurd (Int32.le_refl _) c⟩
      · obtain ⟨cnt, sf, q1, q2, q3⟩ := s1
        exact ⟨cnt, sf, q1, by omega, q3⟩
    | succ r ih =>
      intro m M0 hm hf hok hbc hsi
      have hmn : m < D 0 2 := by omega
      have h2 := (hD.2.2.2.1 m hmn).1
      obtain ⟨a, s1, s2, s3⟩ := hsi
      have hY0 : Y L xs M0 := hf.Y (fun a j ha => by unfold oDa; omega) hYr
      have hK0 : KC P D M0 := hKr.fi hD hf (fun a j h => by unfold oDa; omega)
      have hr : gr M0 10 2 = P := by rw [hf.gr]; exact hr0
      obtain ⟨-, -, -, -, -, k5, k6⟩ := hK0.2.2.2.2.1 m hmn
      obtain ⟨Ma, a1, a2, a3⟩ := c_fill (a := P + 57) (lo := D 5 m) (hi := D 5 m + D 174 m) (n := 1500) (v := 0) (kc := 0) (ks := 0) hY0 (by omega) (by omega) (lay57 hP).1 (by omega) (by omega) (by omega)
      have hYa : Y L xs Ma := a1.Y (fun a j ha => by omega) hY0
      have hKa : KC P D Ma := hK0.fi hD a1 (fun a j h => by omega)
      have hra : gr Ma 10 2 = P := by rw [a1.gr]; exact hr
      have hsa : SI P D m 0 (D 5 m + 0) Ma := by
        obtain ⟨cnt, sf, q1, q2, q3⟩ := s1.fi a1 (by omega) (by omega)
        exact ⟨cnt, sf, q1, by have := s3 hmn; omega, q3⟩
      obtain ⟨Mb, b1, b2, b3, b4⟩ := c_mark (kc := 0 - 0) (ks := 0 - 0) hP hD hmn 121 0 Ma (by omega) (by omega) hYa hra hKa bgW_0 (fun j hj => ⟨fun c => by omega, fun _ => a2 _ (by omega) (by omega)⟩) hsa
      have hYb : Y L xs Mb := b1.Y (fun a j ha => by unfold oD; omega) hYa
      have hKb : KC P D Mb := hKa.fi hD b1 (fun a j h => by unfold oD; omega)
      have hrb : gr Mb 10 2 = P := by rw [b1.gr]; exact hra
      have fb : FI (oDa P) (e_sr M 10 2 P) Mb := FI.t2 (FI.t2 hf (a1.up (fun a j h => by unfold oDa; omega))) (b1.up (fun a j h => by unfold oD at h; unfold oDa; omega))
      obtain ⟨-, -, -, -, -, kb5, kb6⟩ := hKb.2.2.2.2.1 m hmn
      have hbc' : ∀ m', m' < m + 1 → BC1 P D m' Mb := by
        intro m' h
        by_cases e : m' = m
        · subst e; exact b2
        · have hdis := h2.2.2.2.2.2.2.2 m' (by omega)
          exact ((hbc m' (by omega)).fi a1 (fun j _ _ => by omega)).fi b1 (fun j _ _ => by unfold oD; omega)
      have start : ∀ n Q, (∃ k, w_Decoder_findsFault_44 k (kc - 0) (ks - 0) 10 (N m) (P + 24 + 2 * m) 0 Mb Q (fun kc ks l0 l2 M => w_Decoder_findsFault_15 n kc ks l0 l2 M Q)) → w_Decoder_findsFault_15 (n + 1) kc ks 10 (N m) M0 Q := by
        intro n Q h
        unfold w_Decoder_findsFault_15
        simp (disch := omega) only [yo10 hY0, po hY0 hP, hr, true_and, hK0.1.2.2.2, N_le, pr10 hY0 hP, pa23 hY0 hP, N_in, N_nat, pmr hY0 hP]
        refine ⟨fun c => absurd c (by omega), fun _ => ⟨Or.inr (by omega), 0, 0, Nat.zero_le _, Nat.zero_le _, ?_⟩⟩
        unfold w_Decoder_markBegins
        simp (disch := omega) only [pmo hY0 hP, yo10 hY0, po hY0 hP, hr, true_and, pr12 hY0 hP, k5, k6, N_add]
        refine ⟨0, 0, Nat.zero_le _, Nat.zero_le _, a3 _ ⟨pmo hYa hP (by omega), ?_⟩⟩
        obtain ⟨-, -, -, -, -, ka5, ka6⟩ := hKa.2.2.2.2.1 m hmn
        rw [ka5]
        exact b4 _ h
      have look : ∀ p, p < D 174 m → ∀ k Q k15, ((bg D m p → good D m p) → w_Decoder_findsFault_44 k (kc - 0) (ks - 0) 10 (N m) (P + 24 + 2 * m) (N (p + 1)) Mb Q k15) → (¬ (bg D m p → good D m p) → Q 1 (e_si (e_si Mb 10 0 (N m)) 10 1 (N p))) → w_Decoder_findsFault_44 (k + 1) (kc - 0) (ks - 0) 10 (N m) (P + 24 + 2 * m) (N p) Mb Q k15 := by
        intro p hp k Q k15 ha hb
        unfold w_Decoder_findsFault_44 w_Decoder_findsFault_99
        simp (disch := omega) only [N_lit, pmo hYb hP, true_and, kb6, kb5, N_le, yo10 hYb, po hYb hP, hrb, pr12 hYb hP, pi57 hYb hP, N_add, N_in, N_nat]
        refine ⟨fun c => absurd c (by omega), fun _ => ⟨by omega, fun e => ha (fun hbg => ?_), fun e => ?_⟩⟩
        · exfalso
          rw [(b2 p hp).1 hbg] at e
          by_cases e0 : il D m p = 0
          · rw [if_pos e0] at e; exact absurd e (by decide)
          · rw [if_neg e0, N_eq (by have := (il_le e0).2.1; omega) (by omega)] at e; exact e0 e
        · have hbg : bg D m p := by
            by_cases hb : bg D m p
            · exact hb
            · exact absurd ((b2 p hp).2 hb) e
          refine c_faulty hP hYb hrb hD hKb b2 hmn hbg (fun z => ⟨fun _ => ha (fun _ => z), fun y => absurd rfl y⟩) (fun z => ⟨fun y => absurd y (by decide), fun _ => ⟨yo10 hYb, fun M10 e10 => ?_⟩⟩)
          subst e10
          refine ⟨yo10 (hYb.si (by omega)), fun M11 e11 => ?_⟩
          subst e11
          exact ⟨by simp, hb (fun y => z (y hbg))⟩
      by_cases hall : okD D m
      · obtain ⟨v, M1, c1, c2, c3⟩ := ih (m + 1) Mb (by omega) fb (fun m' h => by
            by_cases e : m' = m
            · subst e; exact hall
            · exact hok m' (by omega)) hbc' ⟨D 5 m + D 174 m, b3.nx (Nat.le_refl _), by omega, fun h => (hD.2.2.2.1 (m + 1) h).1.2.2.2.2.2.2.2 m (by omega)⟩
        refine ⟨v, M1, c1, fun Q hQ => ?_, c3⟩
        obtain ⟨n, hn⟩ := c2 Q hQ
        refine ⟨n + 1, start n Q (allLq (p := fun p => bg D m p → good D m p) (W := fun k p => w_Decoder_findsFault_44 k (kc - 0) (ks - 0) 10 (N m) (P + 24 + 2 * m) (N p) Mb Q (fun kc ks l0 l2 M => w_Decoder_findsFault_15 n kc ks l0 l2 M Q)) (Z := fun p => Q 1 (e_si (e_si Mb 10 0 (N m)) 10 1 (N p))) (hi := D 174 m) (fun p hp k => look p hp k Q _) (fun _ => ⟨1, ?_⟩) (fun p hp _ h => absurd (hall p) h))⟩
        unfold w_Decoder_findsFault_44
        rw [kb6]
        refine ⟨pmo hYb hP (by omega), fun _ => ?_, fun c => absurd (Int32.le_refl _) c⟩
        show w_Decoder_findsFault_15 n (kc - 0) (ks - 0) 10 (N m + N 1) Mb Q
        rw [N_add]
        exact hn
      · obtain ⟨p, hp⟩ := Classical.not_forall.mp hall
        obtain ⟨p, hp1, hp2⟩ := least (p := fun p => ¬ (bg D m p → good D m p)) ⟨p, hp⟩
        obtain ⟨hbg, hng⟩ := Classical.not_imp.mp hp1
        have hbef : ∀ p', p' < p → bg D m p' → good D m p' := fun p' h => Classical.not_not.mp (hp2 p' h)
        refine ⟨1, e_si (e_si Mb 10 0 (N m)) 10 1 (N p), FI.si (FI.si fb (by unfold oDa; omega)) (by unfold oDa; omega), fun Q hQ => ⟨1, start 0 Q (allLq (p := fun p => bg D m p → good D m p) (W := fun k p => w_Decoder_findsFault_44 k (kc - 0) (ks - 0) 10 (N m) (P + 24 + 2 * m) (N p) Mb Q (fun kc ks l0 l2 M => w_Decoder_findsFault_15 0 kc ks l0 l2 M Q)) (Z := fun p => Q 1 (e_si (e_si Mb 10 0 (N m)) 10 1 (N p))) (hi := D 174 m) (fun p hp k => look p hp k Q _) (fun z => absurd (z p (bg_lt hbg)) hp1) (fun p' hp' hq hn => ?_))⟩, Or.inr ⟨rfl, m, p, ⟨hmn, hbg, hng, hbef, hok⟩, by rw [gd (by omega), gs], by rw [gs]⟩⟩
        have : p' = p := by
          by_cases c : p' < p
          · exact absurd (hbef p' c) hn
          · by_cases c2 : p < p'
            · exact absurd (hq p c2) hp1
            · omega
        subst this
        exact hQ
  obtain ⟨v, M1, a1, a2, a3⟩ := loop (D 0 2) 0 (e_si (e_sr M 10 2 P) P 14 0) (by omega) (FI.si (FI.rf _) (by unfold oDa; omega)) (fun m' h => by omega) (fun m' h => by omega) ⟨0, ⟨0, fun _ _ => 0, by rw [gs]; rfl, by omega, fun m' j' h => by have := h.2.2; omega, fun m1 j1 m2 j2 h => by have := h.2.2; omega⟩, by omega, fun _ => by omega⟩
  refine ⟨v, M1, a1, fun Q hQ => ?_, a3⟩
  unfold w_Decoder_findsFault
  refine ⟨yo10 hY, fun M1 e1 => ?_⟩
  subst e1
  rw [hr0]
  refine ⟨yo10 hYr, po hYr hP, fun M2 e2 => ?_⟩
  subst e2
  exact a2 Q hQ
