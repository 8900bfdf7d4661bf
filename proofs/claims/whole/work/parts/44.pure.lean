theorem N_m1 {a : Nat} (h : a < 2147483648) : N a - N 1 = -1 ↔ a = 0 := by
  by_cases c : a = 0
  · subst c; exact ⟨fun _ => rfl, fun _ => rfl⟩
  · rw [N_sub (by omega), N_neg (by omega)]; exact ⟨False.elim, fun e => absurd e c⟩
theorem N_bv (a : Nat) : (N a).toBitVec = BitVec.ofNat 32 a := by
  unfold N
  rw [Int32.toBitVec_ofNat']
theorem N_or (a b : Nat) : N a ||| N b = N (a ||| b) := by
  rw [← Int32.toBitVec_inj, Int32.toBitVec_or, N_bv, N_bv, N_bv]
  apply BitVec.eq_of_getLsbD_eq
  intro i hi
  simp only [BitVec.getLsbD_or, BitVec.getLsbD_ofNat, Nat.testBit_or, hi, decide_true, Bool.true_and]
theorem N_and (a b : Nat) : N a &&& N b = N (a &&& b) := by
  rw [← Int32.toBitVec_inj, Int32.toBitVec_and, N_bv, N_bv, N_bv]
  apply BitVec.eq_of_getLsbD_eq
  intro i hi
  simp only [BitVec.getLsbD_and, BitVec.getLsbD_ofNat, Nat.testBit_and, hi, decide_true, Bool.true_and]
theorem N_shl8 {k : Nat} (h : k < 8) : (1 : Int32) <<< (N k &&& 31) = N (2 ^ k) := by
  have hc : k = 0 ∨ k = 1 ∨ k = 2 ∨ k = 3 ∨ k = 4 ∨ k = 5 ∨ k = 6 ∨ k = 7 := by omega
  rcases hc with rfl | rfl | rfl | rfl | rfl | rfl | rfl | rfl <;> rfl
/-- a type's byte: 1, 2, a class; 0 too where low is 0 -/
def vt (nC lo v : Nat) : Prop := (lo = 0 ∧ v = 0) ∨ v = 1 ∨ v = 2 ∨ (16 ≤ v ∧ v < 16 + nC)
theorem RO.si1 {P p len b M} (h : RO P p len b M) (hP : PP P) (hp : p < len) : RO P (p + 1) len b (e_si M 9 1 (N (p + 1))) := by
  obtain ⟨r1, r2, r3, r4, r5, r6, r7⟩ := h
  have h1 : P ≠ 9 := by rcases hP with rfl | rfl <;> omega
  have h2 : P + 1 ≠ 9 := by rcases hP with rfl | rfl <;> omega
  refine ⟨r1, ?_, ?_, ?_, by omega, r6, fun j hj => ?_⟩
  · simp [gi_si]
  · simp [gi_si, r3]
  · simp [gi_si, r4, h1]
  · simp only [gi_si, h2, false_and, if_false]; exact r7 j hj
theorem RO.wr {P p len b M} (h : RO P p len b M) : RW P p (e_si M 9 2 (N p)) := by
  obtain ⟨r1, r2, r3, r4, r5, r6, r7⟩ := h
  exact ⟨r1, by simp [gi_si], by omega⟩
/-- writing elsewhere -/
theorem RO.si {P p len b M a j x} (h : RO P p len b M) (h1 : a ≠ 9) (h2 : a ≠ P + 1) (h3 : a = P → j ≠ 1) : RO P p len b (e_si M a j x) := by
  obtain ⟨r1, r2, r3, r4, r5, r6, r7⟩ := h
  have e1 : ¬ (9 = a) := fun e => h1 e.symm
  have e2 : ¬ (P + 1 = a) := fun e => h2 e.symm
  refine ⟨r1, ?_, ?_, ?_, r5, r6, fun i hi => ?_⟩
  · simp only [gi_si, e1, false_and, if_false]; exact r2
  · simp only [gi_si, e1, false_and, if_false]; exact r3
  · rw [gi_si, if_neg (fun e => h3 e.1.symm e.2.symm)]; exact r4
  · simp only [gi_si, e2, false_and, if_false]; exact r7 i hi
theorem RW.si {P w M a j x} (h : RW P w M) (h1 : a ≠ 9) : RW P w (e_si M a j x) := by
  obtain ⟨r1, r2, r3⟩ := h
  have e1 : ¬ (9 = a) := fun e => h1 e.symm
  exact ⟨r1, by simp only [gi_si, e1, false_and, if_false]; exact r2, r3⟩
theorem r_type {L xs M P p len b lo nC Q} (hY : Y L xs M) (hP : PP P) (h : RO P p len b M) (hlo : lo = 0 ∨ lo = 1) (hn : gi M P 2 = N nC) (hC : nC ≤ 8)
    (h1 : p < len → vt nC lo (b p) → b p < 256 → Q (N (b p)) (e_si M 9 1 (N (p + 1))))
    (h2 : ¬ (p < len ∧ vt nC lo (b p)) → ∀ M1 v, CI (fun a => a = 9) M M1 → RW P p M1 → Q v M1) : w_Reader_takeType 9 (N lo) M Q := by
  have r1 := h.1
  unfold w_Reader_takeType
  simp (disch := omega) only [N_lit, r1, hn, yo9 hY, po hY hP, true_and, N_add, N_sub]
  refine r_take hY hP h (by omega) (by omega) (fun q1 q2 q3 q4 => ?_) (fun q => ?_)
  · simp (disch := omega) only [N_le, w_Reader_takeType_39, forall_eq, ob_si, yo9 hY, true_and, gi_si, N_sub, and_self, if_true]
    refine ⟨fun c => h1 q1 ?_ q4, fun c => ⟨fun d => h1 q1 ?_ q4, fun d => h2 ?_ _ _ ?_ ?_⟩⟩
    · unfold vt; omega
    · unfold vt; omega
    · unfold vt; omega
    · exact CI.si (s := fun a => a = 9) (CI.si (CI.rf M) rfl) rfl
    · refine ⟨r1, ?_, ?_⟩
      · simp only [gi_si, and_self, if_true]; congr 1
      · have := h.2.2.2.2; omega
  · have g2 := h2 (by unfold vt; omega) _ (N lo) (CI.si (CI.rf M) rfl) h.wr
    have : lo ≤ 2 := by omega
    simp (disch := omega) only [N_le, w_Reader_takeType_39, this, true_imp_iff, not_true, false_imp_iff, and_true]
    exact g2
theorem r_typeW {L xs M P w lo Q} (hY : Y L xs M) (hP : PP P) (h : RW P w M) (hlo : lo = 0 ∨ lo = 1) (hQ : Q (N lo) M) : w_Reader_takeType 9 (N lo) M Q := by
  have r1 := h.1
  unfold w_Reader_takeType
  simp (disch := omega) only [N_lit, r1, yo9 hY, po hY hP, true_and]
  refine r_takeW hY h ?_
  have : lo ≤ 2 := by omega
  simp (disch := omega) only [N_le, w_Reader_takeType_39, this, true_imp_iff, not_true, false_imp_iff, and_true]
  exact hQ
