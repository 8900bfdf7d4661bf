/-! ===== the model's load, of a fresh one ===== -/
section MLO
variable {L : Nat} {xs : Nat → Int32} {t b : Int32} {M : eM} {Q : Int32 → eM → Prop}
def y_M (L : Nat) (t b : Int32) (M : eM) : Prop := y_K L t M ∧ gi M 241 1 = 0 ∧ gi M 241 4 = 0 ∧ gi M 241 7 = 0 ∧ gi M 241 11 = 0 ∧ gi M 241 15 = 0 ∧ gi M 241 81 = 0 ∧ gi M 241 82 = b
theorem y_M.z (h : y_M L t b M) {j : Nat} (h0 : j ≠ 0) (h82 : j ≠ 82) : y_M L t b (e_si M 241 j 0) := by
  obtain ⟨g1, g2, g3, g4, g5, g6, g7, g8⟩ := h
  have hz : ∀ k, gi M 241 k = 0 → gi (e_si M 241 j 0) 241 k = 0 := by
    intro k hk
    rw [gi_si]
    by_cases c : 241 = 241 ∧ k = j
    · rw [if_pos c]
    · rw [if_neg c]; exact hk
  refine ⟨g1.si (by omega), hz _ g2, hz _ g3, hz _ g4, hz _ g5, hz _ g6, hz _ g7, ?_⟩
  rw [gi_si, if_neg (by omega)]
  exact g8
theorem y_M.bad (h : y_M L t b M) (x : Int32) : y_M L t x (e_si M 241 82 x) := by
  obtain ⟨g1, g2, g3, g4, g5, g6, g7, g8⟩ := h
  refine ⟨g1.si (by decide), ?_, ?_, ?_, ?_, ?_, ?_, ?_⟩ <;> rw [gi_si]
  all_goals first | exact if_pos ⟨rfl, rfl⟩ | (rw [if_neg (by decide)]; assumption)
theorem y_M.ot (h : y_M L t b M) {j : Nat} {x : Int32} (hj : j = 8 ∨ j = 9 ∨ j = 10) : y_M L t b (e_si M 241 j x) := by
  obtain ⟨g1, g2, g3, g4, g5, g6, g7, g8⟩ := h
  refine ⟨g1.si (by omega), ?_, ?_, ?_, ?_, ?_, ?_, ?_⟩ <;> rw [gi_si, if_neg (by omega)] <;> assumption
theorem y_M.ob (h : y_M L t b M) : e_ob M 241 12 := h.1.ob
theorem y_M.g1 (h : y_M L t b M) : gi M 241 1 = 0 := h.2.1
theorem y_M.g4 (h : y_M L t b M) : gi M 241 4 = 0 := h.2.2.1
theorem y_M.g7 (h : y_M L t b M) : gi M 241 7 = 0 := h.2.2.2.1
theorem y_M.g11 (h : y_M L t b M) : gi M 241 11 = 0 := h.2.2.2.2.1
theorem y_M.g15 (h : y_M L t b M) : gi M 241 15 = 0 := h.2.2.2.2.2.1
theorem y_M.g81 (h : y_M L t b M) : gi M 241 81 = 0 := h.2.2.2.2.2.2.1
theorem y_M.g82 (h : y_M L t b M) : gi M 241 82 = b := h.2.2.2.2.2.2.2
theorem m_next0 (h : y_M L t 0 M) (lo hi : Int32) (hQ : ∀ M', y_M L t 1 M' → Q 0 M') : w_Mod_next 241 lo hi M Q := by
  unfold w_Mod_next w_Mod_next_37
  rw [h.g82, h.g4, h.g81]
  refine ⟨h.ob, fun _ => ⟨h.ob, h.ob, fun _ => ⟨h.ob, Or.inr rfl, fun M4 e => ?_⟩, fun z => absurd (by decide) z⟩, fun z => absurd rfl z⟩
  subst e
  exact hQ _ (h.bad 1)
theorem m_next1 (h : y_M L t 1 M) (lo hi : Int32) (hQ : Q 0 M) : w_Mod_next 241 lo hi M Q := by
  unfold w_Mod_next
  rw [h.g82]
  exact ⟨h.ob, fun z => absurd z (by decide), fun _ => hQ⟩
theorem m_takeApart (h : y_M L t b M) (hQ : ∀ M', y_M L t 1 M' → Q 0 M') : w_Mod_takeApart 241 M Q := by
  unfold w_Mod_takeApart
  refine ⟨h.ob, fun M1 e1 => ?_⟩
  have h1 : y_M L t b M1 := by subst e1; exact h.z (by decide) (by decide)
  refine ⟨h1.ob, Or.inl rfl, fun M2 e2 => ?_⟩
  have h2 : y_M L t 0 M2 := by subst e2; exact h1.bad 0
  refine ⟨h2.ob, fun M3 e3 => ?_⟩
  have h3 : y_M L t 0 M3 := by subst e3; exact h2.z (by decide) (by decide)
  refine ⟨h3.ob, m_next0 h3 0 8 fun M4 h4 => ⟨h4.ob, fun M6 e6 => ?_⟩⟩
  have h6 : y_M L t 1 M6 := by subst e6; exact h4.z (by decide) (by decide)
  rw [h6.g11]
  refine ⟨h6.ob, fun _ => ?_, fun z => absurd (by decide) z⟩
  unfold w_Mod_takeApart_54
  refine ⟨h6.ob, m_next1 h6 0 8 ⟨h6.ob, fun M9 e9 => ?_⟩⟩
  have h9 : y_M L t 1 M9 := by subst e9; exact h6.z (by decide) (by decide)
  rw [h9.g15]
  refine ⟨h9.ob, fun _ => ?_, fun z => absurd (by decide) z⟩
  unfold w_Mod_takeApart_93
  refine ⟨h9.ob, m_next1 h9 1 16 ⟨h9.ob, fun M12 e12 => ?_⟩⟩
  have h12 : y_M L t 1 M12 := by subst e12; exact h9.z (by decide) (by decide)
  have g19 : gi M12 241 19 = 0 := by subst e12; rw [gi_si, if_pos ⟨rfl, rfl⟩]
  rw [g19]
  refine ⟨h12.ob, fun _ => ?_, fun z => absurd (by decide) z⟩
  unfold w_Mod_takeApart_132
  rw [h12.g11, h12.g15]
  refine ⟨h12.ob, h12.ob, fun _ => ?_, fun z => absurd (by decide) z⟩
  unfold w_Mod_takeApart_176
  rw [h12.g82]
  refine ⟨h12.ob, fun _ => ?_, fun z => absurd z (by decide)⟩
  unfold w_Mod_takeApart_199 w_Mod_takeApart_211
  rw [h12.g82]
  exact ⟨h12.ob, fun _ => ⟨Or.inl rfl, hQ M12 h12⟩, fun z => absurd z (by decide)⟩
theorem m_isFine (h : y_M L t b M) (hQ : ∀ M', y_M L t 1 M' → Q 0 M') : w_Mod_isFine 241 M Q := by
  unfold w_Mod_isFine
  refine ⟨h.ob, m_takeApart h fun M1 h1 => ⟨fun z => absurd rfl z, fun _ => ⟨h1.ob, h1.ob, ?_⟩⟩⟩
  unfold w_Mod_findFault
  refine ⟨h1.ob, fun M2 e2 => ?_⟩
  have h2 : y_M L t 1 M2 := by subst e2; exact h1.ot (by decide)
  refine ⟨h2.ob, fun M3 e3 => ?_⟩
  have h3 : y_M L t 1 M3 := by subst e3; exact h2.ot (by decide)
  refine ⟨h3.ob, fun M4 e4 => ?_⟩
  have h4 : y_M L t 1 M4 := by subst e4; exact h3.ot (by decide)
  exact ⟨Or.inl rfl, Or.inl rfl, hQ M4 h4⟩
theorem m_load (h : y_J L xs t M) (hQ : ∀ M', y_K L 1 M' → Q 0 M') : w_Mod_load 241 M Q := by
  have h0 : y_M L t 0 M := ⟨h.k, h.gi 1 (by decide) (by decide), h.gi 4 (by decide) (by decide), h.gi 7 (by decide) (by decide), h.gi 11 (by decide) (by decide), h.gi 15 (by decide) (by decide), h.gi 81 (by decide) (by decide), h.gi 82 (by decide) (by decide)⟩
  unfold w_Mod_load
  rw [h0.g1]
  refine ⟨h0.ob, h0.ob, fun M1 e1 => ⟨1, ?_⟩⟩
  have h1 : y_M L t 0 M1 := by subst e1; exact h0.z (by decide) (by decide)
  unfold w_Mod_load_10
  rw [h1.g1]
  refine ⟨h1.ob, fun _ => ⟨h1.ob, fun M3 e3 => ?_⟩, fun z => absurd (by decide) z⟩
  have h3 : y_M L t 0 M3 := by subst e3; exact h1.z (by decide) (by decide)
  refine ⟨h3.ob, m_isFine h3 fun M4 h4 => ⟨fun _ => ⟨h4.ob, ?_⟩, fun z => absurd rfl z⟩⟩
  rw [h4.g7]
  exact ⟨fun _ => ⟨h4.ob, m_raise h4.1 1 hQ⟩, fun z => absurd rfl z⟩
end MLO
