/-! ===== pure: instructions that name what there is ===== -/
def named (D : eF) (m p : Nat) : Prop := (cdD D m p = 53 → 1 ≤ cdD D m (p + 1) ∧ cdD D m (p + 1) ≤ 8 ∧ ∀ i, i ≤ cdD D m (p + 1) → bg D m (cdD D m (p + 2 + i))) ∧ (21 ≤ cdD D m p ∧ cdD D m p ≤ 37 → bg D m (cdD D m (p + 1))) ∧ (cdD D m p = 3 ∨ cdD D m p = 4 ∨ cdD D m p = 20 → cdD D m (p + 1) < D 172 m) ∧ (cdD D m p = 38 ∨ cdD D m p = 45 ∨ cdD D m p = 46 → cdD D m (p + 1) < D 0 0) ∧ (cdD D m p = 39 ∨ cdD D m p = 40 → cdD D m (p + 1) < D 0 0 ∧ cdD D m (p + 2) < D 164 (cdD D m (p + 1))) ∧ (cdD D m p = 47 → cdD D m (p + 1) < D 0 2) ∧ (cdD D m p = 48 → cdD D m (p + 1) < D 0 1)
def good (D : eF) (m p : Nat) : Prop := il D m p ≠ 0 ∧ (p + il D m p = D 174 m → cdD D m p = 21 ∨ cdD D m p = 49 ∨ cdD D m p = 50 ∨ cdD D m p = 53) ∧ named D m p
theorem sz1 : ∀ k, k < 53 → szN.getD k 0 = 1 → ¬ (21 ≤ k ∧ k ≤ 37) ∧ k ≠ 3 ∧ k ≠ 4 ∧ k ≠ 20 ∧ k ≠ 38 ∧ k ≠ 45 ∧ k ≠ 46 ∧ k ≠ 39 ∧ k ≠ 40 ∧ k ≠ 47 ∧ k ≠ 48 := by
  intro k hk h
  have h2 : ∀ k, k < 53 → (szN.getD k 0 == 1 && ((decide (21 ≤ k) && decide (k ≤ 37)) || [3, 4, 20, 38, 45, 46, 39, 40, 47, 48].contains k)) = false := by decide
  have h3 := h2 k hk
  rw [h] at h3
  simp at h3
  omega
theorem sz3 : ∀ k, k < 53 → (k = 39 ∨ k = 40 ∨ k = 20 ∨ k = 1) → szN.getD k 0 = 3 := by decide
theorem sz2 : ∀ k, k < 53 → ((21 ≤ k ∧ k ≤ 37) ∨ k = 3 ∨ k = 4 ∨ k = 38 ∨ k = 45 ∨ k = 46 ∨ k = 47 ∨ k = 48 ∨ k = 0) → szN.getD k 0 = 2 := by decide
theorem szc : ∀ k, k < 53 → szN.getD k 0 = 1 ∨ szN.getD k 0 = 2 ∨ szN.getD k 0 = 3 := by decide
/-- a loop that looks at all, and changes nothing -/
theorem allLp {p : Nat → Prop} {W : Nat → Nat → Prop} {A Z : Prop} {hi : Nat} (step : ∀ i, i < hi → ∀ k, (p i → W k (i + 1)) → (¬ p i → Z) → W (k + 1) i) (ex : A → W 1 hi) (hA : (∀ i, i < hi → p i) → A) (hZ : (¬ ∀ i, i < hi → p i) → Z) : ∃ k, W k 0 := by
  have : ∀ r i, i + r = hi → (∀ i', i' < i → p i') → ∃ k, W k i := by
    intro r
    induction r with
    | zero =>
      intro i hr h
      have : i = hi := by omega
      subst this
      exact ⟨1, ex (hA h)⟩
    | succ r ih =>
      intro i hr h
      by_cases c : p i
      · obtain ⟨k, hk⟩ := ih (i + 1) (by omega) (fun i' hi' => by
          by_cases e : i' = i
          · subst e; exact c
          · exact h i' (by omega))
        exact ⟨k + 1, step i (by omega) k (fun _ => hk) (fun z => absurd c z)⟩
      · exact ⟨1, step i (by omega) 0 (fun z => absurd z c) (fun _ => hZ (fun z => c (z i (by omega))))⟩
  exact this hi 0 (by omega) (fun i' hi' => by omega)
theorem il_sz {D m p} (h : il D m p ≠ 0) (h2 : cdD D m p ≠ 53) : il D m p = szN.getD (cdD D m p) 0 ∧ cdD D m p < 53 := by
  obtain ⟨h3, h4, h5⟩ := il_le h
  rw [h3]
  unfold il0
  rw [if_neg (by omega), if_neg h2]
  exact ⟨rfl, by omega⟩
theorem il_53 {D m p} (h : il D m p ≠ 0) (h2 : cdD D m p = 53) : il D m p = cdD D m (p + 1) + 3 ∧ p + 1 < D 174 m := by
  obtain ⟨h3, h4, h5⟩ := il_le h
  by_cases c : p + 1 < D 174 m
  · rw [h3]
    unfold il0
    rw [if_neg (by omega), if_pos h2, if_pos c]
    exact ⟨rfl, c⟩
  · exfalso
    rw [h3] at h
    unfold il0 at h
    rw [if_neg (by omega), if_pos h2, if_neg c] at h
    exact h rfl
section DEC
variable {L : Nat} {xs : Nat → Int32} {P : Nat} {D : eF} {M S : eM} {m p : Nat} {Q : Int32 → eM → Prop}
theorem c_begins {t : Nat} (hP : PP P) (hY : Y L xs M) (hr : gr M 10 2 = P) (hD : KD D) (hK : KC P D M) (hB : BC1 P D m M) (hm : m < D 0 2) (ht : t < 256) (h1 : bg D m t → Q 1 M) (h0 : ¬ bg D m t → Q 0 M) : w_Decoder_begins 10 (P + 24 + 2 * m) (N t) M Q := by
  have hd := hD.1
  have h2 := (hD.2.2.2.1 m hm).1
  obtain ⟨-, -, -, -, -, k5, k6⟩ := hK.2.2.2.2.1 m hm
  unfold w_Decoder_begins w_Decoder_begins_29 w_Decoder_begins_30
  simp (disch := omega) only [N_lit, pmo hY hP, true_and, k5, k6, N_le, yo10 hY, po hY hP, hr, pr12 hY hP, pi57 hY hP, N_add, N_in, N_nat]
  refine ⟨fun c => ⟨by simp, h0 (fun hb => by have := bg_lt hb; omega)⟩, fun c => ⟨by omega, fun e => ⟨by simp, h0 (fun hb => ?_)⟩, fun e => ⟨by simp, h1 ?_⟩⟩⟩
  · rw [(hB t (by omega)).1 hb] at e
    by_cases e0 : il D m t = 0
    · rw [if_pos e0] at e; exact absurd e (by decide)
    · rw [if_neg e0, N_eq (by have := (il_le e0).2.1; omega) (by omega)] at e; exact e0 e
  · by_cases hb : bg D m t
    · exact hb
    · exact absurd ((hB t (by omega)).2 hb) e
theorem c_choose (hP : PP P) (hY : Y L xs M) (hr : gr M 10 2 = P) (hD : KD D) (hK : KC P D M) (hB : BC1 P D m M) (hm : m < D 0 2) (hi : il D m p ≠ 0) (he : cdD D m p = 53) (h1 : named D m p → Q 1 M) (h0 : ¬ named D m p → Q 0 M) : w_Decoder_choosesWell 10 (P + 24 + 2 * m) (N (D 5 m + p)) M Q := by
  have hd := hD.1
  have h2 := (hD.2.2.2.1 m hm).1
  obtain ⟨i1, i2⟩ := il_53 hi he
  have i3 := (il_le hi).2.1
  obtain ⟨b1, b2, b3⟩ := hK.b hD hm i2
  have hnm : named D m p ↔ (1 ≤ cdD D m (p + 1) ∧ cdD D m (p + 1) ≤ 8 ∧ ∀ i, i ≤ cdD D m (p + 1) → bg D m (cdD D m (p + 2 + i))) := by
    unfold named
    exact ⟨fun h => h.1 he, fun h => ⟨fun _ => h, fun c => by omega, fun c => by omega, fun c => by omega, fun c => by omega, fun c => by omega, fun c => by omega⟩⟩
  rw [hnm] at h1 h0
  generalize hn : cdD D m (p + 1) = n at *
  unfold w_Decoder_choosesWell w_Decoder_choosesWell_23
  rw [show D 5 m + (p + 1) = D 5 m + p + 1 by omega] at b1
  simp (disch := omega) only [N_lit, yo10 hY, po hY hP, hr, true_and, pr0 hY hP, pi1 hY hP, N_add, N_in, N_nat, b1, N_lt, N_le]
  refine ⟨by omega, fun c => ⟨by simp, h0 (fun z => by omega)⟩, fun c => ⟨fun c2 => ?_, fun c2 => ⟨by simp, h0 (fun z => by omega)⟩⟩⟩
  have step : ∀ i, i ≤ n → ∀ k, (bg D m (cdD D m (p + 2 + i)) → w_Decoder_choosesWell_28 k 10 (P + 24 + 2 * m) (N (D 5 m + p)) (N n) (N (i + 1)) M Q) → (¬ bg D m (cdD D m (p + 2 + i)) → Q 0 M) → w_Decoder_choosesWell_28 (k + 1) 10 (P + 24 + 2 * m) (N (D 5 m + p)) (N n) (N i) M Q := by
    intro i hin k ha hb
    obtain ⟨q1, q2, q3⟩ := hK.b hD hm (p := p + 2 + i) (by omega)
    rw [show D 5 m + (p + 2 + i) = D 5 m + p + 2 + i by omega] at q1
    unfold w_Decoder_choosesWell_28
    simp (disch := omega) only [N_lit, N_lt, yo10 hY, po hY hP, hr, true_and, pr0 hY hP, pi1 hY hP, N_add, N_in, N_nat, q1]
    refine ⟨fun c => absurd c (by omega), fun _ => ⟨by omega, c_begins hP hY hr hD hK hB hm q2 (fun z => ⟨fun _ => ha z, fun y => absurd y (by decide)⟩) (fun z => ⟨fun y => absurd rfl y, fun _ => ⟨by simp, hb z⟩⟩)⟩⟩
  refine allLp (p := fun i => bg D m (cdD D m (p + 2 + i))) (W := fun k i => w_Decoder_choosesWell_28 k 10 (P + 24 + 2 * m) (N (D 5 m + p)) (N n) (N i) M Q) (hi := n + 1) (fun i hin k => step i (by omega) k) (A := Q 1 M) (fun hA => ?_) (fun z => h1 ⟨by omega, c2, fun i hi => z i (by omega)⟩) (fun z => h0 (fun y => z (fun i hi => y.2.2 i (by omega))))
  unfold w_Decoder_choosesWell_28
  simp (disch := omega) only [N_lt]
  exact ⟨fun _ => ⟨by simp, hA⟩, fun c => absurd (by omega) c⟩
theorem c_names (hP : PP P) (hY : Y L xs M) (hr : gr M 10 2 = P) (hD : KD D) (hK : KC P D M) (hB : BC1 P D m M) (hm : m < D 0 2) (hi : il D m p ≠ 0) (h1 : named D m p → Q 1 M) (h0 : ¬ named D m p → Q 0 M) : w_Decoder_namesWhatThereIs 10 (P + 24 + 2 * m) (N (D 5 m + p)) (N (cdD D m p)) M Q := by
  have hd := hD.1
  have h2 := (hD.2.2.2.1 m hm).1
  have i3 := (il_le hi).2
  obtain ⟨k1, k2, -, k3, k4, k5, k6⟩ := hK.2.2.2.2.1 m hm
  unfold w_Decoder_namesWhatThereIs
  by_cases e53 : cdD D m p = 53
  · refine ⟨fun z => absurd (by rw [e53]; rfl) z, fun _ => ⟨yo10 hY, c_choose hP hY hr hD hK hB hm hi e53 (fun z => ⟨by simp, h1 z⟩) (fun z => ⟨by simp, h0 z⟩)⟩⟩
  · obtain ⟨i1, i2⟩ := il_sz hi e53
    generalize hop : cdD D m p = op at *
    simp (disch := omega) only [N_lit, N_eq, yi2 hY, N_in, N_nat, hY.sz i2, yo10 hY, po hY hP, hr, true_and, pr0 hY hP, pi1 hY hP, N_add, N_lt]
    refine ⟨fun _ => ⟨by omega, fun c1 => ⟨by omega, ?_⟩, fun c1 => ⟨by simp, h1 ?_⟩⟩, fun z => absurd z e53⟩
    · have c1 : ¬ szN.getD op 0 = 1 := by
        intro z
        rw [z] at c1
        exact c1 rfl
      have hp1 : p + 1 < D 174 m := by have := szc op i2; omega
      obtain ⟨b1, b2, b3⟩ := hK.b hD hm hp1
      rw [show D 5 m + (p + 1) = D 5 m + p + 1 by omega] at b1
      rw [b1]
      have h57 : ¬ (21 ≤ op ∧ op ≤ 37) → w_Decoder_namesWhatThereIs_57 10 (P + 24 + 2 * m) (N (D 5 m + p)) (N op) (N (cdD D m (p + 1))) M Q := by
        intro hnj
        have n148 : op = 3 ∨ op = 4 ∨ op = 20 → w_Decoder_namesWhatThereIs_148 (P + 24 + 2 * m) (N (cdD D m (p + 1))) M Q := by
          intro e
          have hx : named D m p ↔ cdD D m (p + 1) < D 172 m := by
            unfold named; rw [hop]
            exact ⟨fun h => h.2.2.1 e, fun h => ⟨fun c => by omega, fun c => by omega, fun _ => h, fun c => by omega, fun c => by omega, fun c => by omega, fun c => by omega⟩⟩
          unfold w_Decoder_namesWhatThereIs_148 w_Decoder_namesWhatThereIs_162
          simp (disch := omega) only [pmo hY hP, true_and, k3, N_le]
          exact ⟨fun c => ⟨by simp, h0 (fun z => by have := hx.mp z; omega)⟩, fun c => ⟨by simp, h1 (hx.mpr (by omega))⟩⟩
        have n163 : op = 38 ∨ op = 45 ∨ op = 46 → w_Decoder_namesWhatThereIs_163 10 (N (cdD D m (p + 1))) M Q := by
          intro e
          have hx : named D m p ↔ cdD D m (p + 1) < D 0 0 := by
            unfold named; rw [hop]
            exact ⟨fun h => h.2.2.2.1 e, fun h => ⟨fun c => by omega, fun c => by omega, fun c => by omega, fun _ => h, fun c => by omega, fun c => by omega, fun c => by omega⟩⟩
          unfold w_Decoder_namesWhatThereIs_163 w_Decoder_namesWhatThereIs_180
          simp (disch := omega) only [yo10 hY, po hY hP, hr, true_and, hK.1.2.1, N_le]
          exact ⟨fun c => ⟨by simp, h0 (fun z => by have := hx.mp z; omega)⟩, fun c => ⟨by simp, h1 (hx.mpr (by omega))⟩⟩
        have n181 : op = 39 ∨ op = 40 → w_Decoder_namesWhatThereIs_181 10 (N (D 5 m + p)) (N (cdD D m (p + 1))) M Q := by
          intro e
          have hx : named D m p ↔ cdD D m (p + 1) < D 0 0 ∧ cdD D m (p + 2) < D 164 (cdD D m (p + 1)) := by
            unfold named; rw [hop]
            exact ⟨fun h => h.2.2.2.2.1 e, fun h => ⟨fun c => by omega, fun c => by omega, fun c => by omega, fun c => by omega, fun _ => h, fun c => by omega, fun c => by omega⟩⟩
          have hs := sz3 op i2 (by omega)
          obtain ⟨g1, g2, g3⟩ := hK.b hD hm (p := p + 2) (by omega)
          rw [show D 5 m + (p + 2) = D 5 m + p + 2 by omega] at g1
          unfold w_Decoder_namesWhatThereIs_181 w_Decoder_namesWhatThereIs_221 w_Decoder_namesWhatThereIs_222
          simp (disch := omega) only [N_lit, yo10 hY, po hY hP, hr, true_and, hK.1.2.1, N_le, pr0 hY hP, pi1 hY hP, N_add, N_in, N_nat, pr5 hY hP, pi4 hY hP, g1]
          refine ⟨fun c => ⟨by simp, h0 (fun z => by have := (hx.mp z).1; omega)⟩, fun c => ⟨by omega, by omega, ?_⟩⟩
          have hc : cdD D m (p + 1) < D 0 0 := by omega
          have f8 := (hD.2.1 _ hc).1.2.2.2
          rw [(hK.2.2.1 _ hc).2.1, N_le (by omega) (by omega)]
          exact ⟨fun c => ⟨by simp, h0 (fun z => by have := (hx.mp z).2; omega)⟩, fun c => ⟨by simp, h1 (hx.mpr ⟨hc, by omega⟩)⟩⟩
        unfold w_Decoder_namesWhatThereIs_57 w_Decoder_namesWhatThereIs_240 w_Decoder_namesWhatThereIs_258
        simp (disch := omega) only [N_lit, N_eq, yo10 hY, po hY hP, hr, true_and, hK.1.2.2.1, hK.1.2.2.2, N_le]
        refine ⟨fun e => n148 (by omega), fun e3 => ⟨fun e => n148 (by omega), fun e4 => ⟨fun e => n148 (by omega), fun e20 => ⟨fun e => n163 (by omega), fun e38 => ⟨fun e => n181 (by omega), fun e39 => ⟨fun e => n181 (by omega), fun e40 => ⟨fun e => n163 (by omega), fun e45 => ⟨fun e => n163 (by omega), fun e46 => ⟨fun e => ?_, fun e47 => ⟨fun e => ?_, fun e48 => ⟨by simp, h1 ?_⟩⟩⟩⟩⟩⟩⟩⟩⟩⟩⟩
        · have hx : named D m p ↔ cdD D m (p + 1) < D 0 2 := by
            unfold named; rw [hop]
            exact ⟨fun h => h.2.2.2.2.2.1 e, fun h => ⟨fun c => by omega, fun c => by omega, fun c => by omega, fun c => by omega, fun c => by omega, fun _ => h, fun c => by omega⟩⟩
          exact ⟨fun c => ⟨by simp, h0 (fun z => by have := hx.mp z; omega)⟩, fun c => ⟨by simp, h1 (hx.mpr (by omega))⟩⟩
        · have hx : named D m p ↔ cdD D m (p + 1) < D 0 1 := by
            unfold named; rw [hop]
            exact ⟨fun h => h.2.2.2.2.2.2 e, fun h => ⟨fun c => by omega, fun c => by omega, fun c => by omega, fun c => by omega, fun c => by omega, fun c => by omega, fun _ => h⟩⟩
          exact ⟨fun c => ⟨by simp, h0 (fun z => by have := hx.mp z; omega)⟩, fun c => ⟨by simp, h1 (hx.mpr (by omega))⟩⟩
        · unfold named; rw [hop]
          exact ⟨fun c => by omega, fun c => by omega, fun c => by omega, fun c => by omega, fun c => by omega, fun c => by omega, fun c => by omega⟩
      refine ⟨fun c => h57 (by omega), fun c => ⟨fun c2 => h57 (by omega), fun c2 => ?_⟩⟩
      have hx : named D m p ↔ bg D m (cdD D m (p + 1)) := by
        unfold named; rw [hop]
        exact ⟨fun h => h.2.1 (by omega), fun h => ⟨fun c => by omega, fun _ => h, fun c => by omega, fun c => by omega, fun c => by omega, fun c => by omega, fun c => by omega⟩⟩
      exact c_begins hP hY hr hD hK hB hm b2 (fun z => ⟨Or.inr rfl, h1 (hx.mpr z)⟩) (fun z => ⟨Or.inl rfl, h0 (fun y => z (hx.mp y))⟩)
    · have hs : szN.getD op 0 = 1 := by
        have := szc op i2
        rcases this with h | h | h
        · exact h
        · rw [h] at c1; exact absurd c1 (by decide)
        · rw [h] at c1; exact absurd c1 (by decide)
      have := sz1 op i2 hs
      unfold named; rw [hop]
      exact ⟨fun c => by omega, fun c => by omega, fun c => by omega, fun c => by omega, fun c => by omega, fun c => by omega, fun c => by omega⟩
theorem c_faulty (hP : PP P) (hY : Y L xs M) (hr : gr M 10 2 = P) (hD : KD D) (hK : KC P D M) (hB : BC1 P D m M) (hm : m < D 0 2) (hb : bg D m p) (h1 : good D m p → Q 0 M) (h0 : ¬ good D m p → Q 1 M) : w_Decoder_isFaulty 10 (P + 24 + 2 * m) (N (D 5 m + p)) M Q := by
  have hd := hD.1
  have h2 := (hD.2.2.2.1 m hm).1
  have hp := bg_lt hb
  obtain ⟨-, -, -, -, -, k5, k6⟩ := hK.2.2.2.2.1 m hm
  obtain ⟨b1, b2, b3⟩ := hK.b hD hm hp
  have hv := (hB p hp).1 hb
  unfold w_Decoder_isFaulty
  simp (disch := omega) only [yo10 hY, po hY hP, hr, true_and, pr12 hY hP, pi57 hY hP, pr0 hY hP, pi1 hY hP, N_in, N_nat, b1, hv]
  by_cases e0 : il D m p = 0
  · rw [if_pos e0]
    refine ⟨by omega, fun z => absurd rfl z, fun _ => ⟨by simp, h0 (fun z => z.1 e0)⟩⟩
  · rw [if_neg e0]
    have i3 := (il_le e0).2.1
    rw [N_neg (by omega)]
    refine ⟨by omega, fun _ => ⟨by omega, ?_⟩, fun z => z.elim⟩
    have h85 : (p + il D m p = D 174 m → cdD D m p = 21 ∨ cdD D m p = 49 ∨ cdD D m p = 50 ∨ cdD D m p = 53) → w_Decoder_isFaulty_85 10 (P + 24 + 2 * m) (N (D 5 m + p)) (N (cdD D m p)) M Q := by
      intro he
      unfold w_Decoder_isFaulty_85 w_Decoder_isFaulty_101
      exact ⟨yo10 hY, c_names hP hY hr hD hK hB hm e0 (fun z => ⟨fun _ => ⟨by simp, h1 ⟨e0, he, z⟩⟩, fun y => absurd y (by decide)⟩) (fun z => ⟨fun y => absurd rfl y, fun _ => ⟨by simp, h0 (fun y => z y.2.2)⟩⟩)⟩
    have h60 : (cdD D m p = 21 ∨ cdD D m p = 49 ∨ cdD D m p = 50 ∨ cdD D m p = 53) → w_Decoder_isFaulty_60 10 (P + 24 + 2 * m) (N (D 5 m + p)) (N (il D m p)) (N (cdD D m p)) M Q := by
      intro he
      unfold w_Decoder_isFaulty_60 w_Decoder_isFaulty_61
      exact ⟨fun _ => h85 (fun _ => he), fun z => absurd rfl z⟩
    simp (disch := omega) only [N_lit, N_eq]
    refine ⟨fun e => h60 (by omega), fun e1 => ⟨fun e => h60 (by omega), fun e2 => ⟨fun e => h60 (by omega), fun e3 => ⟨fun e => h60 (by omega), fun e4 => ?_⟩⟩⟩⟩
    unfold w_Decoder_isFaulty_61
    simp (disch := omega) only [N_lit, N_eq, pmo hY hP, true_and, k5, k6, N_add]
    refine ⟨fun z => absurd z (by decide), fun _ => ⟨fun c => h85 (fun z => by omega), fun c => ⟨by simp, h0 (fun z => by have := z.2.1 (by omega); omega)⟩⟩⟩
end DEC
