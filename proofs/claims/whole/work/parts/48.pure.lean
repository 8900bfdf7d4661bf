theorem N_m1' {a : Nat} (h : a < 2147483648) : N a - N 1 = -N 1 ↔ a = 0 := N_m1 h
theorem N_neg' {a : Nat} (h : a < 2147483648) : N a = -N 1 ↔ False := N_neg h
theorem N_0 : (0 : Int32) = N 0 := rfl
theorem N_m0 : N 0 - N 1 = -N 1 := rfl
/-- the first k classes, as the class has them -/
def CW (nC k P : Nat) (F : eF) (M : eM) : Prop := ∀ c, c < k → gi M (P + 2) c = N (F 163 c) - N 1 ∧ gi M (P + 3) c = N (F 4 c) ∧ gi M (P + 4) c = N (F 164 c) ∧ (F 163 c ≤ c ∧ F 4 c < 256 ∧ F 4 c = 2 ^ c ||| (if F 163 c = 0 then 0 else F 4 (F 163 c - 1)) ∧ F 164 c ≤ 8) ∧ ∀ f, f < F 164 c → tyv nC 1 (gi M (P + 5) (c * 8 + f))
/-- as the model has them -/
def EqC (k P : Nat) (F : eF) (M S : eM) : Prop := ∀ c, c < k → gi S 163 c = N (F 163 c) - N 1 ∧ gi S 164 c = N (F 164 c) ∧ ∀ f, f < F 164 c → gi S 165 (c * 8 + f) = gi M (P + 5) (c * 8 + f)
abbrev oc2 (P k : Nat) : Nat → Nat → Prop := fun a j => a = 9 ∨ (a = P + 2 ∧ j = k) ∨ (a = P + 3 ∧ j = k) ∨ (a = P + 4 ∧ j = k) ∨ (a = P + 5 ∧ k * 8 ≤ j ∧ j < k * 8 + 8)
/-- the rest of a class behind a wrong byte -/
theorem c_tail0 {L xs P k w M Q} {k16 : Nat → Int32 → eM → Prop} (hP : PP P) (hk : k < 8) (hY : Y L xs M) (h : RW P w M) (hQ : k16 9 (N (k + 1)) (e_si (e_si (e_si M (P + 2) k (N 0 - N 1)) (P + 3) k (N (2 ^ k))) (P + 4) k (N 0))) : w_Reader_readClasses_54 9 (N k) (N 0 - N 1) (N 0) M Q k16 := by
  have hg := hP.ge
  have r1 := h.1
  have hs := N_shl8 hk
  have h2 : RW P w (e_si (e_si M (P + 2) k (N 0 - N 1)) (P + 3) k (N (2 ^ k))) := (h.si (by omega)).si (by omega)
  have hY2 : Y L xs (e_si (e_si M (P + 2) k (N 0 - N 1)) (P + 3) k (N (2 ^ k))) := (hY.si (by omega)).si (by omega)
  have hz : ∀ x : Int32, x ||| N 0 = x := fun x => by rw [← Int32.toBitVec_inj, Int32.toBitVec_or, N_bv]; simp
  unfold w_Reader_readClasses_54 w_Reader_readClasses_94
  simp (disch := omega) only [r1, yo9 hY, po hY hP, true_and, pr3 hY hP, pa2 hY hP, N_in, N_nat, forall_eq, ob_si, gr_si, pr4 hY hP, ar_si, pa3 hY hP, hs]
  refine ⟨by omega, fun c => absurd rfl c, fun _ => ⟨by omega, 1, ?_⟩⟩
  rw [N_0, hz]
  unfold w_Reader_readClasses_99
  refine ⟨fun _ => ⟨yo9 hY2, r_takeW hY2 h2 ⟨1, ?_⟩⟩, fun c => absurd (Int32.le_refl _) c⟩
  unfold w_Reader_readClasses_161
  simp (disch := omega) only [N_lit, N_add, N_le, gr_si, r1, ob_si, yo9 hY, po hY hP, true_and, pr5 hY hP, ar_si, pa4 hY hP, N_in, N_nat, forall_eq]
  exact ⟨fun _ => ⟨by omega, hQ⟩, fun c => absurd (by omega) c⟩
/-- a class's inherited fields -/
theorem c_copy {L xs P k q inh M} (hP : PP P) (hk : k < 8) (hq : q < k) (hi : inh ≤ 8) (hY : Y L xs M) (hr : gr M 9 0 = P) : ∃ M1, FI (fun a j => a = P + 5 ∧ k * 8 ≤ j ∧ j < k * 8 + 8) M M1 ∧ (∀ f, f < inh → gi M1 (P + 5) (k * 8 + f) = gi M (P + 5) (q * 8 + f)) ∧ ∀ x : (eM → Prop) × (Nat → Int32 → eM → Prop), (∃ n, w_Reader_readClasses_99 n 9 (N k) (N q) (N inh) (N inh) M1 x.1 x.2) → ∃ n, w_Reader_readClasses_99 n 9 (N k) (N q) (N inh) (N 0) M x.1 x.2 := by
  obtain ⟨M1, ⟨a1, a2⟩, a3⟩ := lpO (W := fun n f M (x : (eM → Prop) × (Nat → Int32 → eM → Prop)) => w_Reader_readClasses_99 n 9 (N k) (N q) (N inh) (N f) M x.1 x.2) (I := fun f M1 => FI (fun a j => a = P + 5 ∧ k * 8 ≤ j ∧ j < k * 8 + 8) M M1 ∧ ∀ f', f' < f → gi M1 (P + 5) (k * 8 + f') = gi M (P + 5) (q * 8 + f')) (hi := inh) (fun f M1 hf ⟨h1, h2⟩ => by
    have hY1 : Y L xs M1 := h1.Y (fun a j ha => by omega) hY
    have r1 : gr M1 9 0 = P := by rw [h1.gr]; exact hr
    refine ⟨e_si M1 (P + 5) (k * 8 + f) (gi M1 (P + 5) (q * 8 + f)), ⟨FI.si h1 (by omega), fun f' z => ?_⟩, fun n x hn => ?_⟩
    · by_cases e : f' = f
      · subst e; rw [gs, h1.gi (by omega)]
      · rw [gd (by omega)]; exact h2 f' (by omega)
    · unfold w_Reader_readClasses_99
      simp (disch := omega) only [N_lit, N_le, r1, yo9 hY1, po hY1 hP, true_and, pr6 hY1 hP, pi5 hY1 hP, pa5 hY1 hP, N_mul, N_add, N_in, N_nat, forall_eq]
      exact ⟨fun c => absurd c (by omega), fun _ => ⟨by omega, by omega, hn⟩⟩) inh 0 M (by omega) ⟨FI.rf M, fun f' z => by omega⟩
  exact ⟨M1, a1, a2, a3⟩
theorem m_copy {L xs k q own inh S} (hk : k < 8) (hq : q < k) (hi : inh ≤ 8) (hY : Y L xs S) : ∃ S1, FI (fun a j => a = 165 ∧ k * 8 ≤ j ∧ j < k * 8 + 8) S S1 ∧ (∀ f, f < inh → gi S1 165 (k * 8 + f) = gi S 165 (q * 8 + f)) ∧ ∀ Q : eM → Prop, (∃ n, w_Mod_readClass_71 n 159 (N k) (N (q + 1)) (N inh) own (N inh) S1 Q) → ∃ n, w_Mod_readClass_71 n 159 (N k) (N (q + 1)) (N inh) own (N 0) S Q := by
  obtain ⟨S1, ⟨a1, a2⟩, a3⟩ := lpO (W := fun n f S (Q : eM → Prop) => w_Mod_readClass_71 n 159 (N k) (N (q + 1)) (N inh) own (N f) S Q) (I := fun f S1 => FI (fun a j => a = 165 ∧ k * 8 ≤ j ∧ j < k * 8 + 8) S S1 ∧ ∀ f', f' < f → gi S1 165 (k * 8 + f') = gi S 165 (q * 8 + f')) (hi := inh) (fun f S1 hf ⟨h1, h2⟩ => by
    have hY1 : Y L xs S1 := h1.Y (fun a j ha => by omega) hY
    refine ⟨e_si S1 165 (k * 8 + f) (gi S1 165 (q * 8 + f)), ⟨FI.si h1 (by omega), fun f' z => ?_⟩, fun n x hn => ?_⟩
    · by_cases e : f' = f
      · subst e; rw [gs, h1.gi (by omega)]
      · rw [gd (by omega)]; exact h2 f' (by omega)
    · unfold w_Mod_readClass_71
      simp (disch := omega) only [N_lit, N_le, yo159 hY1, true_and, yr159_14 hY1, ya165 hY1, yi165 hY1, N_sub, N_mul, N_add, N_in, N_nat, forall_eq, Nat.mul_comm 8, Nat.add_sub_cancel]
      exact ⟨fun c => absurd c (by omega), fun _ => ⟨by omega, by omega, hn⟩⟩) inh 0 S (by omega) ⟨FI.rf S, fun f' z => by omega⟩
  exact ⟨S1, a1, a2, a3⟩
