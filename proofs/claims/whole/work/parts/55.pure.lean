/-! ===== pure: methods ===== -/
def cS4 (Sh : Nat) (l1 : Int32) (Q : eM → Prop) (k16 : Nat → Int32 → eM → Prop) (M : eM) : Prop := e_ob M 9 7 ∧ e_ob M Sh 8 ∧ ∀ M15 : eM, M15 = e_si M Sh 5 (gi M 9 1) → e_ob M15 9 7 ∧ (¬ (gi M15 9 2) = (-1) → w_Reader_readMethods_125 9 l1 Sh M15 Q k16) ∧ ((gi M15 9 2) = (-1) → e_ob M15 9 7 ∧ e_ob M15 Sh 8 ∧ e_ob M15 9 7 ∧ e_ob M15 (gr M15 9 0) 6 ∧ (((gi M15 9 1) + (gi M15 Sh 6)) ≤ (gi M15 (gr M15 9 0) 1) → w_Reader_readMethods_125 9 l1 Sh M15 Q k16) ∧ (¬ ((gi M15 9 1) + (gi M15 Sh 6)) ≤ (gi M15 (gr M15 9 0) 1) → e_ob M15 9 7 ∧ e_ob M15 (gr M15 9 0) 6 ∧ e_ob M15 9 7 ∧ ∀ M16 : eM, M16 = e_si M15 9 2 (gi M15 (gr M15 9 0) 1) → w_Reader_readMethods_125 9 l1 Sh M16 Q k16))
def cS3 (Sh : Nat) (l1 : Int32) (Q : eM → Prop) (k16 : Nat → Int32 → eM → Prop) (M : eM) : Prop := e_ob M 9 7 ∧ w_Reader_take 9 1 120 M (fun (v13 : Int32) (M12 : eM) => e_ob M12 Sh 8 ∧ ∀ M14 : eM, M14 = e_si M12 Sh 6 v13 → cS4 Sh l1 Q k16 M14)
def cS2 (Sh : Nat) (l1 : Int32) (Q : eM → Prop) (k16 : Nat → Int32 → eM → Prop) (M : eM) : Prop := e_ob M 9 7 ∧ w_Reader_take 9 0 8 M (fun (v10 : Int32) (M9 : eM) => e_ob M9 Sh 8 ∧ ∀ M11 : eM, M11 = e_si M9 Sh 4 v10 → cS3 Sh l1 Q k16 M11)
def cS1 (Sh : Nat) (l1 : Int32) (Q : eM → Prop) (k16 : Nat → Int32 → eM → Prop) (M : eM) : Prop := e_ob M Sh 8 ∧ e_ob M 9 7 ∧ w_Reader_take 9 (gi M Sh 1) 8 M (fun (v7 : Int32) (M6 : eM) => e_ob M6 Sh 8 ∧ ∀ M8 : eM, M8 = e_si M6 Sh 3 v7 → cS2 Sh l1 Q k16 M8)
theorem c_16 {L xs P k nM M n Q} (hP : PP P) (hk : k < nM) (hM16 : nM ≤ 16) (hY : Y L xs M) (hr : gr M 9 0 = P) (hn : gi M P 9 = N nM) (h : w_Reader_readShape 9 (P + 24 + 2 * k) (N 4) M (fun M5 => cS1 (P + 24 + 2 * k) (N k) Q (fun l0 l1 M => w_Reader_readMethods_16 n l0 l1 M Q) M5)) : w_Reader_readMethods_16 (n + 1) 9 (N k) M Q := by
  unfold w_Reader_readMethods_16
  simp (disch := omega) only [hr, hn, N_le, yo9 hY, po hY hP, true_and, pr10 hY hP, pa23 hY hP, N_in, N_nat, pmr hY hP]
  exact ⟨fun c => absurd c (by omega), fun _ => ⟨Or.inr (by omega), h⟩⟩
abbrev oT (Sh : Nat) : Nat → Nat → Prop := fun a j => a = 9 ∨ (a = Sh ∧ (3 ≤ j ∧ j ≤ 6))
/-- the rest of a method behind a wrong byte -/
theorem c_mW4 {L xs P Sh w M m} (hP : PP P) (hS : SH P Sh) (hY : Y L xs M) (h : RW P w M) : ∃ M', FI (oT Sh) M M' ∧ RW P w M' ∧ ∀ (Q : eM → Prop) (k16 : Nat → Int32 → eM → Prop), k16 9 (N (m + 1)) M' → cS4 Sh (N m) Q k16 M := by
  have hg := hP.ge
  have hs := hS.ge
  have hY1 : Y L xs (e_si M Sh 5 (gi M 9 1)) := hY.si (by omega)
  have h1 : RW P w (e_si M Sh 5 (gi M 9 1)) := h.si (by omega)
  refine ⟨e_si (e_si M Sh 5 (gi M 9 1)) 9 1 (gi (e_si M Sh 5 (gi M 9 1)) 9 1 + gi (e_si M Sh 5 (gi M 9 1)) Sh 6), FI.si (FI.si (FI.rf M) (by unfold oT; omega)) (by unfold oT; omega), ⟨h1.1, by rw [gd (by omega)]; exact h1.2.1, h1.2.2⟩, fun Q k16 hQ => ⟨yo9 hY, hS.o hP hY, fun M15 e => ?_⟩⟩
  subst e
  have hne : ¬ gi (e_si M Sh 5 (gi M 9 1)) 9 2 = -1 := by
    rw [h1.2.1, N_neg (by have := h.2.2; omega)]; exact id
  refine ⟨yo9 hY1, fun _ => ⟨yo9 hY1, hS.o hP hY1, yo9 hY1, fun M17 e => ?_⟩, fun c => absurd c hne⟩
  subst e
  simp only [N_lit, N_add]
  exact hQ
theorem c_mW3 {L xs P Sh w M m} (hP : PP P) (hS : SH P Sh) (hY : Y L xs M) (h : RW P w M) : ∃ M', FI (oT Sh) M M' ∧ RW P w M' ∧ ∀ (Q : eM → Prop) (k16 : Nat → Int32 → eM → Prop), k16 9 (N (m + 1)) M' → cS3 Sh (N m) Q k16 M := by
  have hg := hP.ge
  have hs := hS.ge
  obtain ⟨M', a1, a2, a3⟩ := c_mW4 (m := m) hP hS (M := e_si M Sh 6 1) (hY.si (by omega)) (h.si (by omega))
  refine ⟨M', FI.t2 (FI.si (FI.rf M) (by unfold oT; omega)) a1, a2, fun Q k16 hQ => ⟨yo9 hY, r_takeW hY h ⟨hS.o hP hY, fun M14 e => ?_⟩⟩⟩
  subst e; exact a3 Q k16 hQ
theorem c_mW2 {L xs P Sh w M m} (hP : PP P) (hS : SH P Sh) (hY : Y L xs M) (h : RW P w M) : ∃ M', FI (oT Sh) M M' ∧ RW P w M' ∧ ∀ (Q : eM → Prop) (k16 : Nat → Int32 → eM → Prop), k16 9 (N (m + 1)) M' → cS2 Sh (N m) Q k16 M := by
  have hg := hP.ge
  have hs := hS.ge
  obtain ⟨M', a1, a2, a3⟩ := c_mW3 (m := m) hP hS (M := e_si M Sh 4 0) (hY.si (by omega)) (h.si (by omega))
  refine ⟨M', FI.t2 (FI.si (FI.rf M) (by unfold oT; omega)) a1, a2, fun Q k16 hQ => ⟨yo9 hY, r_takeW hY h ⟨hS.o hP hY, fun M14 e => ?_⟩⟩⟩
  subst e; exact a3 Q k16 hQ
theorem c_mW1 {L xs P Sh w M m} (hP : PP P) (hS : SH P Sh) (hY : Y L xs M) (h : RW P w M) : ∃ M', FI (oT Sh) M M' ∧ RW P w M' ∧ ∀ (Q : eM → Prop) (k16 : Nat → Int32 → eM → Prop), k16 9 (N (m + 1)) M' → cS1 Sh (N m) Q k16 M := by
  have hg := hP.ge
  have hs := hS.ge
  obtain ⟨M', a1, a2, a3⟩ := c_mW2 (m := m) hP hS (M := e_si M Sh 3 (gi M Sh 1)) (hY.si (by omega)) (h.si (by omega))
  refine ⟨M', FI.t2 (FI.si (FI.rf M) (by unfold oT; omega)) a1, a2, fun Q k16 hQ => ⟨hS.o hP hY, yo9 hY, r_takeW hY h ⟨hS.o hP hY, fun M14 e => ?_⟩⟩⟩
  subst e; exact a3 Q k16 hQ
/-- the model's rest of a method -/
def mS3 (k : Nat) (Q : eM → Prop) (S : eM) : Prop := e_ob S 159 12 ∧ e_ob S 159 12 ∧ w_Mod_next 159 1 120 S (fun (v15 : Int32) (M14 : eM) => e_ar M14 (gr S 159 25) 20 (N k) ∧ ∀ M16 : eM, M16 = e_si M14 (gr S 159 25) k v15 → ∃ n17 : Nat, w_Mod_readMethod_102 n17 159 (N k) 0 M16 Q)
def mS2 (k : Nat) (Q : eM → Prop) (S : eM) : Prop := e_ob S 159 12 ∧ e_ob S 159 12 ∧ w_Mod_next 159 0 8 S (fun (v12 : Int32) (M11 : eM) => e_ar M11 (gr S 159 24) 20 (N k) ∧ ∀ M13 : eM, M13 = e_si M11 (gr S 159 24) k v12 → mS3 k Q M13)
def mS1 (k : Nat) (Q : eM → Prop) (S : eM) : Prop := e_ob S 159 12 ∧ e_ob S 159 12 ∧ e_ai S (gr S 159 20) (N k) ∧ e_ob S 159 12 ∧ w_Mod_next 159 (gi S (gr S 159 20) k) 8 S (fun (v9 : Int32) (M8 : eM) => e_ar M8 (gr S 159 23) 20 (N k) ∧ ∀ M10 : eM, M10 = e_si M8 (gr S 159 23) k v9 → mS2 k Q M10)
abbrev omT (k : Nat) : Nat → Nat → Prop := fun a j => (a = 159 ∧ (j = 81 ∨ j = 82)) ∨ (a = 172 ∧ j = k) ∨ (a = 173 ∧ j = k) ∨ (a = 174 ∧ j = k) ∨ (a = 175 ∧ 120 * k ≤ j ∧ j < 120 * k + 120)
/-- the model's code, byte by byte -/
theorem m_codeB {L xs k z w S} (hk : k < 16) (hz : z ≤ 120) {i : Nat} (hi : i ≤ z) (hY : Y L xs S) (hz0 : gi S 174 k = N z) (h : MB w S) : ∃ S1, FI (omT k) S S1 ∧ MB w S1 ∧ ∀ Q : eM → Prop, Q S1 → ∃ n, w_Mod_readMethod_102 n 159 (N k) (N i) S Q := by
  obtain ⟨S1, ⟨a1, a2, a4⟩, a3⟩ := lpO (W := fun n i S Q => w_Mod_readMethod_102 n 159 (N k) (N i) S Q) (I := fun _ S' => FI (omT k) S S' ∧ MB w S' ∧ gi S' 174 k = N z) (hi := z) (fun f S' hf ⟨h1, h2, h3⟩ => by
    have hY' : Y L xs S' := h1.Y (fun a j ha => by unfold omT; omega) hY
    refine ⟨e_si S' 175 (120 * k + f) 0, ⟨FI.si h1 (by unfold omT; omega), h2.fi (o := fun a _ => a = 175) (FI.si (FI.rf _) rfl) (by omega) (by omega), by rw [gd (by omega)]; exact h3⟩, fun n Q hn => ?_⟩
    unfold w_Mod_readMethod_102
    simp (disch := omega) only [N_lit, yo159 hY', yr159_25 hY', yr159_26 hY', yi174 hY', N_in, N_nat, h3, N_le, true_and]
    refine ⟨by omega, fun c => absurd c (by omega), fun _ => m_nextB hY' h2 ?_⟩
    simp (disch := omega) only [N_lit, N_mul, N_add, ya175 hY', N_in, N_nat, forall_eq]
    exact ⟨by omega, hn⟩) (z - i) i S (by omega) ⟨FI.rf S, h, hz0⟩
  refine ⟨S1, a1, a2, fun Q hQ => a3 Q ⟨1, ?_⟩⟩
  have hY' : Y L xs S1 := a1.Y (fun a j ha => by unfold omT; omega) hY
  unfold w_Mod_readMethod_102
  simp (disch := omega) only [yo159 hY', yr159_25 hY', yi174 hY', N_in, N_nat, a4, true_and]
  exact ⟨by omega, fun _ => hQ, fun c => absurd (Int32.le_refl _) c⟩
theorem m_code {L xs k z p len b S} (hk : k < 16) (hz : z ≤ 120) (hY : Y L xs S) (hz0 : gi S 174 k = N z) (h : MO p len b S) :
    (p + z ≤ len → ∃ S1, FI (omT k) S S1 ∧ MO (p + z) len b S1 ∧ gi S1 172 k = gi S 172 k ∧ gi S1 173 k = gi S 173 k ∧ gi S1 174 k = N z ∧ (∀ j, j < z → gi S1 175 (120 * k + j) = N (b (p + j))) ∧ ∀ Q : eM → Prop, Q S1 → ∃ n, w_Mod_readMethod_102 n 159 (N k) (N 0) S Q) ∧
    (¬ p + z ≤ len → ∃ S1, FI (omT k) S S1 ∧ MB len S1 ∧ ∀ Q : eM → Prop, Q S1 → ∃ n, w_Mod_readMethod_102 n 159 (N k) (N 0) S Q) := by
  have step : ∀ f S', f < z → FI (fun a j => (a = 159 ∧ (j = 81 ∨ j = 82)) ∨ (a = 175 ∧ 120 * k ≤ j ∧ j < 120 * k + 120)) S S' → MO (p + f) len b S' → p + f < len → ∀ n (Q : eM → Prop), w_Mod_readMethod_102 n 159 (N k) (N (f + 1)) (e_si (e_si S' 159 81 (N (p + f + 1))) 175 (120 * k + f) (N (b (p + f)))) Q → w_Mod_readMethod_102 (n + 1) 159 (N k) (N f) S' Q := by
    intro f S' hf h1 h2 h3 n Q hn
    have hY' : Y L xs S' := h1.Y (fun a j ha => by omega) hY
    have hz1 : gi S' 174 k = N z := by rw [h1.gi (by omega)]; exact hz0
    have hb := (h2.2.2.2.2.2 (p + f) h3).2
    unfold w_Mod_readMethod_102
    simp (disch := omega) only [N_lit, yo159 hY', yr159_25 hY', yr159_26 hY', yi174 hY', N_in, N_nat, hz1, N_le, true_and]
    refine ⟨by omega, fun c => absurd c (by omega), fun _ => m_next hY' h2 (by omega) (by omega) (fun _ _ _ => ?_) (fun z => absurd ⟨h3, by omega, by omega⟩ z)⟩
    simp (disch := omega) only [N_lit, N_mul, N_add, ar_si, ya175 hY', N_in, N_nat, forall_eq]
    exact ⟨by omega, hn⟩
  have run : ∀ hi, hi ≤ z → p + hi ≤ len → ∃ S1, (FI (fun a j => (a = 159 ∧ (j = 81 ∨ j = 82)) ∨ (a = 175 ∧ 120 * k ≤ j ∧ j < 120 * k + 120)) S S1 ∧ MO (p + hi) len b S1 ∧ ∀ j, j < hi → gi S1 175 (120 * k + j) = N (b (p + j))) ∧ ∀ Q : eM → Prop, (∃ n, w_Mod_readMethod_102 n 159 (N k) (N hi) S1 Q) → ∃ n, w_Mod_readMethod_102 n 159 (N k) (N 0) S Q := by
    intro hi hhi hl
    refine lpO (W := fun n i S Q => w_Mod_readMethod_102 n 159 (N k) (N i) S Q) (I := fun f S' => FI (fun a j => (a = 159 ∧ (j = 81 ∨ j = 82)) ∨ (a = 175 ∧ 120 * k ≤ j ∧ j < 120 * k + 120)) S S' ∧ MO (p + f) len b S' ∧ ∀ j, j < f → gi S' 175 (120 * k + j) = N (b (p + j))) (hi := hi) (fun f S' hf ⟨h1, h2, h3⟩ => ?_) hi 0 S (by omega) ⟨FI.rf S, h, fun j z => by omega⟩
    refine ⟨e_si (e_si S' 159 81 (N (p + f + 1))) 175 (120 * k + f) (N (b (p + f))), ⟨FI.si (FI.si h1 (by omega)) (by omega), (h2.si1 (by omega)).fi (o := fun a _ => a = 175) (FI.si (FI.rf _) rfl) (by omega) (by omega) (by omega) (by omega), fun j hj => ?_⟩, step f S' (by omega) h1 h2 (by omega)⟩
    by_cases e : j = f
    · subst e; rw [gs]
    · rw [gd (by omega), gd (by omega)]; exact h3 j (by omega)
  constructor
  · intro hl
    obtain ⟨S1, ⟨a1, a2, a4⟩, a3⟩ := run z (Nat.le_refl _) hl
    have hY' : Y L xs S1 := a1.Y (fun a j ha => by omega) hY
    refine ⟨S1, a1.up (fun a j z => by unfold omT; omega), a2, a1.gi (by omega), a1.gi (by omega), by rw [a1.gi (by omega)]; exact hz0, a4, fun Q hQ => a3 Q ⟨1, ?_⟩⟩
    have hz1 : gi S1 174 k = N z := by rw [a1.gi (by omega)]; exact hz0
    unfold w_Mod_readMethod_102
    simp (disch := omega) only [yo159 hY', yr159_25 hY', yi174 hY', N_in, N_nat, hz1, true_and]
    exact ⟨by omega, fun _ => hQ, fun c => absurd (Int32.le_refl _) c⟩
  · intro hl
    have hpl := h.2.2.2.1
    obtain ⟨S1, ⟨a1, a2, a4⟩, a3⟩ := run (len - p) (by omega) (by omega)
    have e : p + (len - p) = len := by omega
    rw [e] at a2
    have hY' : Y L xs S1 := a1.Y (fun a j ha => by omega) hY
    have hz1 : gi S1 174 k = N z := by rw [a1.gi (by omega)]; exact hz0
    have hYb : Y L xs (e_si (e_si S1 159 82 1) 175 (120 * k + (len - p)) 0) := (hY'.si (a := 159) (by omega)).si (by omega)
    obtain ⟨S2, b1, b2, b3⟩ := m_codeB (i := len - p + 1) hk hz (by omega) hYb (by rw [gd (by omega), gd (by omega)]; exact hz1) (a2.wr.fi (o := fun a _ => a = 175) (FI.si (FI.rf _) rfl) (by omega) (by omega))
    refine ⟨S2, FI.t2 (FI.si (FI.si (a1.up (fun a j z => by unfold omT; omega)) (by unfold omT; omega)) (by unfold omT; omega)) b1, b2, fun Q hQ => a3 Q ?_⟩
    obtain ⟨n, hn⟩ := b3 Q hQ
    refine ⟨n + 1, ?_⟩
    unfold w_Mod_readMethod_102
    simp (disch := omega) only [N_lit, yo159 hY', yr159_25 hY', yr159_26 hY', yi174 hY', N_in, N_nat, hz1, N_le, true_and]
    refine ⟨by omega, fun c => absurd c (by omega), fun _ => m_next hY' a2 (by omega) (by omega) (fun c _ _ => absurd c (by omega)) (fun _ => ?_)⟩
    simp (disch := omega) only [N_lit, N_mul, N_add, ar_si, ya175 hY', N_in, N_nat, forall_eq]
    exact ⟨by omega, hn⟩
