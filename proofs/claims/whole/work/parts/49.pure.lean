def inhF (F : eF) (q : Nat) : Nat := if q = 0 then 0 else F 164 (q - 1)
def mskF (F : eF) (k q : Nat) : Nat := 2 ^ k ||| (if q = 0 then 0 else F 4 (q - 1))
/-- from the first byte of a class to its inherited fields -/
theorem c_head {L xs P k q nC F M0 M Q} {k16 : Nat → Int32 → eM → Prop} (hP : PP P) (hk : k < 8) (hq : q ≤ k) (hF : CW nC k P F M0) (hY : Y L xs M) (hr : gr M 9 0 = P) (h3 : ∀ j, gi M (P + 3) j = gi M0 (P + 3) j) (h4 : ∀ j, gi M (P + 4) j = gi M0 (P + 4) j)
    (h : ∃ n, w_Reader_readClasses_99 n 9 (N k) (N q - N 1) (N (inhF F q)) (N 0) (e_si (e_si M (P + 2) k (N q - N 1)) (P + 3) k (N (mskF F k q))) Q k16) :
    (¬ (N q - 1) = (-1) → e_ob M 9 7 ∧ e_ob M (gr M 9 0) 6 ∧ e_ai M (gr M (gr M 9 0) 5) (N q - 1) ∧ w_Reader_readClasses_54 9 (N k) (N q - 1) (gi M (gr M (gr M 9 0) 5) (N q - 1).toNatClampNeg) M Q k16) ∧ ((N q - 1) = (-1) → w_Reader_readClasses_54 9 (N k) (N q - 1) 0 M Q k16) := by
  have hg := hP.ge
  have hs : N 1 <<< (N k &&& N 31) = N (2 ^ k) := N_shl8 hk
  by_cases c : q = 0
  · subst c
    refine ⟨fun z => absurd rfl z, fun _ => ?_⟩
    obtain ⟨n, hn⟩ := h
    unfold w_Reader_readClasses_54 w_Reader_readClasses_94
    simp (disch := omega) only [N_lit, hr, yo9 hY, po hY hP, true_and, pr3 hY hP, pa2 hY hP, N_in, N_nat, forall_eq, ob_si, gr_si, pr4 hY hP, ar_si, pa3 hY hP, hs, N_or, N_m0, not_true, false_imp_iff, true_imp_iff]
    refine ⟨by omega, by omega, n, ?_⟩
    simpa only [mskF, inhF, if_true, N_m0] using hn
  · have e1 : N q - 1 = N (q - 1) := by show N q - N 1 = _; exact N_sub (by omega)
    have e2 : N q - N 1 = N (q - 1) := e1
    rw [e2] at h
    obtain ⟨f1, f2, f3, f4, f5⟩ := hF (q - 1) (by omega)
    obtain ⟨n, hn⟩ := h
    rw [e1]
    refine ⟨fun _ => ?_, fun z => by rw [N_neg (by omega)] at z; exact z.elim⟩
    unfold w_Reader_readClasses_54 w_Reader_readClasses_94
    simp (disch := omega) only [N_lit, hr, yo9 hY, po hY hP, true_and, pr3 hY hP, pr5 hY hP, pi4 hY hP, pa2 hY hP, N_in, N_nat, forall_eq, ob_si, gr_si, pr4 hY hP, ar_si, pa3 hY hP, ai_si, pi3 hY hP, hs, N_neg', not_false_iff, true_imp_iff, false_imp_iff, and_true]
    refine ⟨by omega, by omega, by omega, by omega, n, ?_⟩
    rw [gd (by omega), h3, h4, f2, f3, N_or]
    simpa only [mskF, inhF, if_neg c] using hn
theorem m_head {L xs P k p q len b nC F M S Q} (hk : k < 8) (hq : q ≤ k) (hF : CW nC k P F M) (hE : EqC k P F M S) (hY : Y L xs S) (hO : MO p len b S) (hp : p < len) (hb : b p = q)
    (h : w_Mod_next 159 (N 0) (N (min 4 (8 - inhF F q))) (e_si (e_si S 159 81 (N (p + 1))) 163 k (N q - N 1)) (fun v5 M4 => e_ob M4 159 12 ∧ e_ar M4 (gr M4 159 13) 20 (N k) ∧ ∀ M6 : eM, M6 = e_si M4 (gr M4 159 13) (N k).toNatClampNeg (N (inhF F q) + v5) → ∃ n7 : Nat, w_Mod_readClass_71 n7 159 (N k) (N q) (N (inhF F q)) v5 0 M6 Q)) : w_Mod_readClass 159 (N k) S Q := by
  have hi : inhF F q ≤ 8 := by
    unfold inhF
    by_cases c : q = 0
    · rw [if_pos c]; omega
    · rw [if_neg c]; exact (hF (q - 1) (by omega)).2.2.2.1.2.2.2
  have h53 : w_Mod_readClass_32 159 (N k) (N q) (N (inhF F q)) (e_si (e_si S 159 81 (N (p + 1))) 163 k (N q - N 1)) Q := by
    unfold w_Mod_readClass_32 w_Mod_readClass_53
    simp (disch := omega) only [N_lit, N_sub, N_le]
    refine ⟨fun c => ⟨yo159 hY, ?_⟩, fun c => ⟨yo159 hY, ?_⟩⟩
    · rw [show min 4 (8 - inhF F q) = 4 by omega] at h; exact h
    · rw [show min 4 (8 - inhF F q) = 8 - inhF F q by omega] at h; exact h
  unfold w_Mod_readClass
  refine ⟨yo159 hY, m_next (lo := 0) hY hO (by omega) (by omega) (fun _ _ _ => ?_) (fun z => absurd ⟨hp, by omega, by omega⟩ z)⟩
  rw [hb]
  by_cases c : q = 0
  · subst c
    simp (disch := omega) only [N_lit, ob_si, yo159 hY, true_and, gr_si, yr159_12 hY, ar_si, ya163 hY, N_in, N_nat, forall_eq, not_true, false_imp_iff, true_imp_iff]
    exact ⟨by omega, by simpa only [inhF, if_true] using h53⟩
  · obtain ⟨g1, g2, g3⟩ := hE (q - 1) (by omega)
    simp (disch := omega) only [N_lit, ob_si, yo159 hY, true_and, gr_si, yr159_12 hY, yr159_13 hY, ar_si, ya163 hY, ai_si, yi164 hY, N_sub, N_in, N_nat, forall_eq, N_eq, gi_si, show ¬ (164 = 163) by decide, show ¬ (164 = 159) by decide, false_and, if_false]
    refine ⟨by omega, fun _ => ⟨by omega, ?_⟩, fun z => absurd z c⟩
    rw [g2]
    have e2 : N q - N 1 = N (q - 1) := by rw [N_sub (by omega)]
    rw [e2] at h53
    simpa only [inhF, if_neg c] using h53
