/-! ===== pure: two programs in step ===== -/
theorem PP.ge {P : Nat} (h : PP P) : 35 ≤ P ∧ P + 61 < 159 := by rcases h with rfl | rfl <;> omega
/-- the model comes from every S0 of J at W0 to an S of R at W, and changes only places of om -/
def MP {X : Type} (om : Nat → Nat → Prop) (W0 : eM → X → Prop) (J R : eM → Prop) (W : eM → X → Prop) : Prop := ∀ S0, J S0 → ∃ S, FI om S0 S ∧ R S ∧ ∀ x, W S x → W0 S0 x
theorem MP.rf {X : Type} {om : Nat → Nat → Prop} {W0 : eM → X → Prop} {J : eM → Prop} : MP om W0 J J W0 := fun S0 h => ⟨S0, FI.rf S0, h, fun _ h => h⟩
theorem MP.st {X : Type} {om : Nat → Nat → Prop} {W0 W W' : eM → X → Prop} {J R R' : eM → Prop} (h : MP om W0 J R W) (g : ∀ S, R S → ∃ S', FI om S S' ∧ R' S' ∧ ∀ x, W' S' x → W S x) : MP om W0 J R' W' := by
  intro S0 h0
  obtain ⟨S, a1, a2, a3⟩ := h S0 h0
  obtain ⟨S', b1, b2, b3⟩ := g S a2
  exact ⟨S', FI.t2 a1 b1, b2, fun x hx => a3 x (b3 x hx)⟩
theorem MP.im {X : Type} {om : Nat → Nat → Prop} {W0 W : eM → X → Prop} {J R R' : eM → Prop} (h : MP om W0 J R W) (g : ∀ S, R S → R' S) : MP om W0 J R' W :=
  h.st fun S hS => ⟨S, FI.rf S, g S hS, fun _ z => z⟩
/-- a loop that counts up -/
theorem lpE {X : Type} {W : Nat → Nat → eM → X → Prop} {I E : Nat → eM → Prop} {hi : Nat}
    (step : ∀ f M, f < hi → I f M → ∃ M', (I (f + 1) M' ∨ E (f + 1) M') ∧ ∀ n x, W n (f + 1) M' x → W (n + 1) f M x)
    (stepE : ∀ f M, f < hi → E f M → ∃ M', E (f + 1) M' ∧ ∀ n x, W n (f + 1) M' x → W (n + 1) f M x) :
    ∀ r f M, f + r = hi → (I f M ∨ E f M) → ∃ M1, (I hi M1 ∨ E hi M1) ∧ ∀ x, (∃ n, W n hi M1 x) → ∃ n, W n f M x := by
  intro r
  induction r with
  | zero =>
    intro f M hf h
    have : f = hi := by omega
    subst this
    exact ⟨M, h, fun _ z => z⟩
  | succ r ih =>
    intro f M hf h
    have : ∃ M', (I (f + 1) M' ∨ E (f + 1) M') ∧ ∀ n x, W n (f + 1) M' x → W (n + 1) f M x := by
      rcases h with h | h
      · exact step f M (by omega) h
      · obtain ⟨M', a, b⟩ := stepE f M (by omega) h
        exact ⟨M', Or.inr a, b⟩
    obtain ⟨M', a, b⟩ := this
    obtain ⟨M1, c, d⟩ := ih (f + 1) M' (by omega) a
    refine ⟨M1, c, fun x hx => ?_⟩
    obtain ⟨n, hn⟩ := d x hx
    exact ⟨n + 1, b n x hn⟩
theorem lpO {X : Type} {W : Nat → Nat → eM → X → Prop} {I : Nat → eM → Prop} {hi : Nat}
    (step : ∀ f M, f < hi → I f M → ∃ M', I (f + 1) M' ∧ ∀ n x, W n (f + 1) M' x → W (n + 1) f M x) :
    ∀ r f M, f + r = hi → I f M → ∃ M1, I hi M1 ∧ ∀ x, (∃ n, W n hi M1 x) → ∃ n, W n f M x := by
  intro r f M hf h
  obtain ⟨M1, a, b⟩ := lpE (I := I) (E := fun _ _ => False) (fun f M h1 h2 => by
    obtain ⟨M', a, b⟩ := step f M h1 h2
    exact ⟨M', Or.inl a, b⟩) (fun _ _ _ h => h.elim) r f M hf (Or.inl h)
  exact ⟨M1, a.elim id (fun z => z.elim), b⟩
theorem r_typeX {L xs M P p len b lo nC} (hY : Y L xs M) (hP : PP P) (h : RO P p len b M) (hlo : lo = 0 ∨ lo = 1) (hn : gi M P 2 = N nC) (hC : nC ≤ 8) (hb : ¬ (p < len ∧ vt nC lo (b p))) : ∃ v M', FI (fun a _ => a = 9) M M' ∧ RW P p M' ∧ ∀ Q : Int32 → eM → Prop, Q v M' → w_Reader_takeType 9 (N lo) M Q := by
  have r1 := h.1
  by_cases c : p < len ∧ lo ≤ b p ∧ b p ≤ 16 + nC - 1
  · refine ⟨N (b p), e_si (e_si M 9 1 (N (p + 1))) 9 2 (N p), FI.si (o := fun a _ => a = 9) (FI.si (FI.rf M) rfl) rfl, ⟨r1, by simp [gi_si], by have := h.2.2.2.2; omega⟩, fun Q hQ => ?_⟩
    unfold w_Reader_takeType
    simp (disch := omega) only [N_lit, r1, hn, yo9 hY, po hY hP, true_and, N_add, N_sub]
    refine r_take hY hP h (by omega) (by omega) (fun q1 q2 q3 q4 => ?_) (fun q => absurd c q)
    simp (disch := omega) only [N_le, w_Reader_takeType_39, forall_eq, ob_si, yo9 hY, true_and, gi_si, N_sub, and_self, if_true, Nat.add_sub_cancel]
    refine ⟨fun c => absurd ⟨q1, ?_⟩ hb, fun c => ⟨fun d => absurd ⟨q1, ?_⟩ hb, fun d => hQ⟩⟩
    · unfold vt; omega
    · unfold vt; omega
  · refine ⟨N lo, e_si M 9 2 (N p), FI.si (FI.rf M) rfl, h.wr, fun Q hQ => ?_⟩
    unfold w_Reader_takeType
    simp (disch := omega) only [N_lit, r1, hn, yo9 hY, po hY hP, true_and, N_add, N_sub]
    refine r_take hY hP h (by omega) (by omega) (fun q1 q2 q3 q4 => absurd ⟨q1, q2, q3⟩ c) (fun q => ?_)
    have : lo ≤ 2 := by omega
    simp (disch := omega) only [N_le, w_Reader_takeType_39, this, true_imp_iff, not_true, false_imp_iff, and_true]
    exact hQ
theorem r_typeO {L xs M P p len b lo nC} (hY : Y L xs M) (hP : PP P) (h : RO P p len b M) (hlo : lo = 0 ∨ lo = 1) (hn : gi M P 2 = N nC) (hC : nC ≤ 8) (hb : p < len ∧ vt nC lo (b p)) {Q : Int32 → eM → Prop} (hQ : Q (N (b p)) (e_si M 9 1 (N (p + 1)))) : w_Reader_takeType 9 (N lo) M Q :=
  r_type hY hP h hlo hn hC (fun _ _ _ => hQ) (fun z => absurd hb z)
