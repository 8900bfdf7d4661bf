/-! ===== load, of a fresh one: no bytes ===== -/
section LOD
variable {L : Nat} {xs : Nat → Int32} {t : Int32} {M : eM} {Q : Int32 → eM → Prop} {P : eM → Prop} {X : Nat → eM → Prop}
/-- the class's cells that load looks at: the reader's place and first wrong byte, of the FILE's length, classes, methods, of METHOD 0 the parameters and the length -/
def y_L (L : Nat) (xs : Nat → Int32) (a w c m p k : Int32) (M : eM) : Prop := y_J L xs 0 M ∧ (e_ob M 8 11 ∧ gr M 8 6 = 104 ∧ e_ob M 199 6 ∧ gr M 199 0 = 104 ∧ e_ob M 104 5 ∧ gr M 104 10 = 140 ∧ e_ob M 141 8 ∧ gr M 140 0 = 141 ∧ M.1 = 292 ∧ M.2.1 140 = (24, 16)) ∧ gi M 199 1 = a ∧ gi M 199 2 = w ∧ gi M 104 1 = 0 ∧ gi M 104 2 = c ∧ gi M 104 9 = m ∧ gi M 141 1 = p ∧ gi M 141 6 = k
variable {a w c m p k : Int32}
theorem y_L.at (h : y_L L xs a w c m p k M) (x : Int32) : y_L L xs x w c m p k (e_si M 199 1 x) := by
  obtain ⟨h1, h2, h3, h4, h5, h6, h7, h8, h9⟩ := h
  refine ⟨h1.si (by decide) (by decide), h2, ?_, ?_, ?_, ?_, ?_, ?_, ?_⟩ <;> rw [gi_si]
  all_goals first | exact if_pos ⟨rfl, rfl⟩ | (rw [if_neg (by decide)]; assumption)
theorem y_L.wr (h : y_L L xs a w c m p k M) (x : Int32) : y_L L xs a x c m p k (e_si M 199 2 x) := by
  obtain ⟨h1, h2, h3, h4, h5, h6, h7, h8, h9⟩ := h
  refine ⟨h1.si (by decide) (by decide), h2, ?_, ?_, ?_, ?_, ?_, ?_, ?_⟩ <;> rw [gi_si]
  all_goals first | exact if_pos ⟨rfl, rfl⟩ | (rw [if_neg (by decide)]; assumption)
theorem y_L.cl (h : y_L L xs a w c m p k M) (x : Int32) : y_L L xs a w x m p k (e_si M 104 2 x) := by
  obtain ⟨h1, h2, h3, h4, h5, h6, h7, h8, h9⟩ := h
  refine ⟨h1.si (by decide) (by decide), h2, ?_, ?_, ?_, ?_, ?_, ?_, ?_⟩ <;> rw [gi_si]
  all_goals first | exact if_pos ⟨rfl, rfl⟩ | (rw [if_neg (by decide)]; assumption)
theorem y_L.me (h : y_L L xs a w c m p k M) (x : Int32) : y_L L xs a w c x p k (e_si M 104 9 x) := by
  obtain ⟨h1, h2, h3, h4, h5, h6, h7, h8, h9⟩ := h
  refine ⟨h1.si (by decide) (by decide), h2, ?_, ?_, ?_, ?_, ?_, ?_, ?_⟩ <;> rw [gi_si]
  all_goals first | exact if_pos ⟨rfl, rfl⟩ | (rw [if_neg (by decide)]; assumption)
theorem y_L.pa (h : y_L L xs a w c m p k M) (x : Int32) : y_L L xs a w c m x k (e_si M 141 1 x) := by
  obtain ⟨h1, h2, h3, h4, h5, h6, h7, h8, h9⟩ := h
  refine ⟨h1.si (by decide) (by decide), h2, ?_, ?_, ?_, ?_, ?_, ?_, ?_⟩ <;> rw [gi_si]
  all_goals first | exact if_pos ⟨rfl, rfl⟩ | (rw [if_neg (by decide)]; assumption)
theorem y_L.co (h : y_L L xs a w c m p k M) (x : Int32) : y_L L xs a w c m p x (e_si M 141 6 x) := by
  obtain ⟨h1, h2, h3, h4, h5, h6, h7, h8, h9⟩ := h
  refine ⟨h1.si (by decide) (by decide), h2, ?_, ?_, ?_, ?_, ?_, ?_, ?_⟩ <;> rw [gi_si]
  all_goals first | exact if_pos ⟨rfl, rfl⟩ | (rw [if_neg (by decide)]; assumption)
/-- a place that load doesn't look at -/
theorem y_L.ot (h : y_L L xs a w c m p k M) {o j : Nat} {x : Int32} (h1 : o ≠ 1) (h2 : o ≠ 241) (h3 : ¬ (199 = o ∧ 1 = j)) (h4 : ¬ (199 = o ∧ 2 = j)) (h5 : ¬ (104 = o ∧ 1 = j)) (h6 : ¬ (104 = o ∧ 2 = j)) (h7 : ¬ (104 = o ∧ 9 = j)) (h8 : ¬ (141 = o ∧ 1 = j)) (h9 : ¬ (141 = o ∧ 6 = j)) : y_L L xs a w c m p k (e_si M o j x) := by
  obtain ⟨g1, g2, g3, g4, g5, g6, g7, g8, g9⟩ := h
  refine ⟨g1.si h1 h2, g2, ?_, ?_, ?_, ?_, ?_, ?_, ?_⟩ <;> rw [gi_si]
  · rw [if_neg h3]; exact g3
  · rw [if_neg h4]; exact g4
  · rw [if_neg h5]; exact g5
  · rw [if_neg h6]; exact g6
  · rw [if_neg h7]; exact g7
  · rw [if_neg h8]; exact g8
  · rw [if_neg h9]; exact g9
theorem y_L.o8 (h : y_L L xs a w c m p k M) : e_ob M 8 11 := h.2.1.1
theorem y_L.o199 (h : y_L L xs a w c m p k M) : e_ob M 199 6 := h.2.1.2.2.1
theorem y_L.o104 (h : y_L L xs a w c m p k M) : e_ob M 104 5 := h.2.1.2.2.2.2.1
theorem y_L.o141 (h : y_L L xs a w c m p k M) : e_ob M 141 8 := h.2.1.2.2.2.2.2.2.1
theorem y_L.r8 (h : y_L L xs a w c m p k M) : gr M 8 6 = 104 := h.2.1.2.1
theorem y_L.r199 (h : y_L L xs a w c m p k M) : gr M 199 0 = 104 := h.2.1.2.2.2.1
theorem y_L.g1 (h : y_L L xs a w c m p k M) : gi M 199 1 = a := h.2.2.1
theorem y_L.g2 (h : y_L L xs a w c m p k M) : gi M 199 2 = w := h.2.2.2.1
theorem y_L.g3 (h : y_L L xs a w c m p k M) : gi M 104 1 = 0 := h.2.2.2.2.1
theorem y_L.g4 (h : y_L L xs a w c m p k M) : gi M 104 2 = c := h.2.2.2.2.2.1
theorem y_L.g5 (h : y_L L xs a w c m p k M) : gi M 104 9 = m := h.2.2.2.2.2.2.1
theorem y_L.g6 (h : y_L L xs a w c m p k M) : gi M 141 1 = p := h.2.2.2.2.2.2.2.1
theorem y_L.g7 (h : y_L L xs a w c m p k M) : gi M 141 6 = k := h.2.2.2.2.2.2.2.2
/-- behind the first wrong byte: the lowest -/
theorem l_take (h : y_L L xs a 0 c m p k M) (lo hi : Int32) (hQ : Q lo M) : w_Reader_take 199 lo hi M Q := by
  unfold w_Reader_take
  rw [h.g2]
  exact ⟨h.o199, fun z => absurd z (by decide), fun _ => hQ⟩
theorem l_take0 (h : y_L L xs 0 (-1) c m p k M) (lo hi : Int32) (hQ : ∀ M', y_L L xs 0 0 c m p k M' → Q lo M') : w_Reader_take 199 lo hi M Q := by
  unfold w_Reader_take
  rw [h.g2, h.r199, h.g1, h.g3]
  refine ⟨h.o199, fun _ => ⟨h.o199, h.o199, h.o104, fun z => absurd z (by decide), fun _ => ⟨h.o199, h.o104, h.o199, fun M1 e => ?_⟩⟩, fun z => absurd rfl z⟩
  subst e
  exact hQ _ (h.wr 0)
theorem l_type (h : y_L L xs a 0 c m p k M) (hQ : Q 0 M) : w_Reader_takeType 199 0 M Q := by
  unfold w_Reader_takeType
  rw [h.r199]
  exact ⟨h.o199, h.o104, h.o199, l_take h 0 _ ⟨fun _ => hQ, fun z => absurd (by decide) z⟩⟩
theorem l_classes (h : y_L L xs 0 (-1) 0 m p k M) (hQ : ∀ M', y_L L xs 0 0 0 m p k M' → P M') : w_Reader_readClasses 199 M P := by
  unfold w_Reader_readClasses
  rw [h.r199]
  refine ⟨h.o199, h.o199, l_take0 h 0 8 fun M1 h1 => ⟨h1.o104, fun M3 e => ⟨1, ?_⟩⟩⟩
  have h3 : y_L L xs 0 0 0 m p k M3 := by subst e; exact h1.cl 0
  unfold w_Reader_readClasses_16
  rw [h3.r199, h3.g4]
  exact ⟨h3.o199, h3.o104, fun _ => hQ M3 h3, fun z => absurd (by decide) z⟩
theorem l_selectors (h : y_L L xs 0 0 0 m p k M) (hQ : ∀ M', y_L L xs 0 0 0 m p k M' → P M') : w_Reader_readSelectors 199 M P := by
  unfold w_Reader_readSelectors
  rw [h.r199]
  refine ⟨h.o199, h.o199, l_take h 0 8 ⟨h.o104, fun M3 e => ?_⟩⟩
  have h3 : y_L L xs 0 0 0 m p k M3 := by subst e; exact h.ot (by decide) (by decide) (by decide) (by decide) (by decide) (by decide) (by decide) (by decide) (by decide)
  have g : gi M3 104 7 = 0 := by subst e; rw [gi_si, if_pos ⟨rfl, rfl⟩]
  rw [h3.r199, g]
  exact ⟨h3.o199, h3.o104, fun _ => hQ M3 h3, fun z => absurd (by decide) z⟩
theorem l_shape (h : y_L L xs 0 0 0 m p k M) (hi : Int32) (hQ : ∀ M', y_L L xs 0 0 0 m 0 k M' → P M') : w_Reader_readShape 199 141 hi M P := by
  unfold w_Reader_readShape
  refine ⟨h.o199, l_take h 0 hi ⟨h.o141, fun M3 e => ⟨1, ?_⟩⟩⟩
  have h3 : y_L L xs 0 0 0 m 0 k M3 := by subst e; exact h.pa 0
  unfold w_Reader_readShape_12
  rw [h3.g6]
  refine ⟨h3.o141, fun _ => ⟨h3.o199, l_type h3 ⟨h3.o141, fun M7 e7 => ?_⟩⟩, fun z => absurd (by decide) z⟩
  subst e7
  exact hQ _ (h3.ot (by decide) (by decide) (by decide) (by decide) (by decide) (by decide) (by decide) (by decide) (by decide))
theorem l_methodAt {Q : Nat → eM → Prop} (h : y_L L xs a w c m p k M) (hQ : Q 141 M) : w_Program_methodAt 104 0 M Q := by
  obtain ⟨-, ⟨-, -, -, -, q5, q6, -, q8, q9, q10⟩, -⟩ := h
  unfold w_Program_methodAt
  refine ⟨q5, fun c => absurd c (by decide), fun _ => ⟨fun c => absurd c (by decide), fun _ => ?_⟩⟩
  unfold w_Program_methodAt_19
  rw [q6, show (0 : Int32).toNatClampNeg = 0 from rfl, q8]
  refine ⟨Or.inr ⟨by decide, by rw [q9]; decide, by rw [q10], ?_⟩, hQ⟩
  rw [q10]
  unfold vp_in
  decide
theorem l_methods (h : y_L L xs 0 0 0 m p k M) (hQ : ∀ M', y_L L xs 1 0 0 1 0 1 M' → P M') : w_Reader_readMethods 199 M P := by
  unfold w_Reader_readMethods
  rw [h.r199]
  refine ⟨h.o199, h.o199, l_take h 1 16 ⟨h.o104, fun M3 e => ⟨2, ?_⟩⟩⟩
  have h3 : y_L L xs 0 0 0 1 p k M3 := by subst e; exact h.me 1
  unfold w_Reader_readMethods_16
  rw [h3.r199, h3.g5]
  refine ⟨h3.o199, h3.o104, fun z => absurd z (by decide), fun _ => ⟨h3.o199, h3.o104, l_methodAt h3 ⟨h3.o199, l_shape h3 4 fun M7 h7 => ?_⟩⟩⟩
  rw [h7.g6]
  refine ⟨h7.o141, h7.o199, l_take h7 0 8 ⟨h7.o141, fun M10 e10 => ?_⟩⟩
  have h10 : y_L L xs 0 0 0 1 0 k M10 := by subst e10; exact h7.ot (by decide) (by decide) (by decide) (by decide) (by decide) (by decide) (by decide) (by decide) (by decide)
  refine ⟨h10.o199, l_take h10 0 8 ⟨h10.o141, fun M13 e13 => ?_⟩⟩
  have h13 : y_L L xs 0 0 0 1 0 k M13 := by subst e13; exact h10.ot (by decide) (by decide) (by decide) (by decide) (by decide) (by decide) (by decide) (by decide) (by decide)
  refine ⟨h13.o199, l_take h13 1 120 ⟨h13.o141, fun M16 e16 => ?_⟩⟩
  have h16 : y_L L xs 0 0 0 1 0 1 M16 := by subst e16; exact h13.co 1
  refine ⟨h16.o199, h16.o141, fun M17 e17 => ?_⟩
  have h17 : y_L L xs 0 0 0 1 0 1 M17 := by subst e17; exact h16.ot (by decide) (by decide) (by decide) (by decide) (by decide) (by decide) (by decide) (by decide) (by decide)
  rw [h17.g2]
  refine ⟨h17.o199, fun _ => ?_, fun z => absurd z (by decide)⟩
  unfold w_Reader_readMethods_124
  rw [h17.g1, h17.g7]
  refine ⟨h17.o199, h17.o141, h17.o199, fun M19 e19 => ?_⟩
  have h19 : y_L L xs 1 0 0 1 0 1 M19 := by subst e19; exact h17.at 1
  show w_Reader_readMethods_16 1 199 (0 + 1) M19 P
  unfold w_Reader_readMethods_16
  rw [h19.r199, h19.g5]
  exact ⟨h19.o199, h19.o104, fun _ => hQ M19 h19, fun z => absurd (by decide) z⟩
theorem l_table (h : y_L L xs 1 0 0 1 0 1 M) (hQ : P M) : w_Reader_readTable 199 M P := by
  refine ⟨1, ?_⟩
  unfold w_Reader_readTable_2
  rw [h.r199, h.g4]
  exact ⟨h.o199, h.o104, fun _ => hQ, fun z => absurd (by decide) z⟩
theorem l_first (h : y_I L xs 292 287 M) (hQ : ∀ M', y_L L xs 1 0 0 1 0 1 M' → Q 0 M') : w_Reader_firstWrong 199 104 M Q := by
  unfold w_Reader_firstWrong
  refine ⟨x_o199 h, fun M1 e1 => ?_⟩
  have h1 : y_L L xs 0 0 0 0 0 0 M1 := by
    subst e1
    refine ⟨(y_J.of h).sr (by decide), ⟨(x_o8 h : e_ob M 8 11), ?_, (x_o199 h : e_ob M 199 6), ?_, (x_o104 h : e_ob M 104 5), ?_, (x_o141 h : e_ob M 141 8), ?_, h.1, ?_⟩, h.gi 199 1 (by decide) (by decide), h.gi 199 2 (by decide) (by decide), h.gi 104 1 (by decide) (by decide), h.gi 104 2 (by decide) (by decide), h.gi 104 9 (by decide) (by decide), h.gi 141 1 (by decide) (by decide), h.gi 141 6 (by decide) (by decide)⟩
    · rw [gr_sr, if_neg (by decide)]; exact x_r8_6 h
    · rw [gr_sr, if_pos ⟨rfl, rfl⟩]
    · rw [gr_sr, if_neg (by decide)]; exact x_r104_10 h
    · rw [gr_sr, if_neg (by decide)]; exact x_r140_0 h
    · show M.2.1 140 = _
      rw [h.2.1 140 (by decide) (by decide)]; decide +kernel
  refine ⟨h1.o199, fun M2 e2 => ?_⟩
  have h2 : y_L L xs 0 0 0 0 0 0 M2 := by subst e2; exact h1.at 0
  refine ⟨h2.o199, fun M3 e3 => ?_⟩
  have h3 : y_L L xs 0 (-1) 0 0 0 0 M3 := by subst e3; exact h2.wr (-1)
  refine ⟨h3.o199, l_classes h3 fun M4 h4 => ⟨h4.o199, l_selectors h4 fun M5 h5 => ⟨h5.o199, l_methods h5 fun M6 h6 => ⟨h6.o199, l_table h6 ?_⟩⟩⟩⟩
  rw [h6.g2]
  refine ⟨h6.o199, fun _ => ?_, fun z => absurd z (by decide)⟩
  unfold w_Reader_firstWrong_61
  rw [h6.g2]
  exact ⟨h6.o199, hQ M6 h6⟩
theorem c_load {kc ks : Nat} (h : y_I L xs 292 287 M) (hk : 1 ≤ kc) (hs : 6 ≤ ks) (hX : ∀ M', y_J L xs 0 M' → X 91 M') : w_Mill_load kc ks 8 M Q X := by
  unfold w_Mill_load
  rw [x_r8_0 h, x_r8_6 h]
  refine ⟨x_o8 h, x_o8 h, x_o199 h, l_first h fun M1 h1 => ⟨fun z => absurd z (by decide), fun _ => ⟨h1.o8, ?_⟩⟩⟩
  unfold w_Mill_keepFault
  refine ⟨h1.o8, fun M2 e2 => ?_⟩
  have h2 : y_L L xs 1 0 0 1 0 1 M2 := by subst e2; exact h1.ot (by decide) (by decide) (by decide) (by decide) (by decide) (by decide) (by decide) (by decide) (by decide)
  have g2 : gi M2 8 7 = 1 := by subst e2; rw [gi_si, if_pos ⟨rfl, rfl⟩]
  refine ⟨h2.o8, fun M3 e3 => ?_⟩
  have h3 : y_L L xs 1 0 0 1 0 1 M3 := by subst e3; exact h2.ot (by decide) (by decide) (by decide) (by decide) (by decide) (by decide) (by decide) (by decide) (by decide)
  have g3 : gi M3 8 7 = 1 := by subst e3; rw [gi_si, if_neg (by decide)]; exact g2
  refine ⟨h3.o8, fun M4 e4 => ?_⟩
  have h4 : y_L L xs 1 0 0 1 0 1 M4 := by subst e4; exact h3.ot (by decide) (by decide) (by decide) (by decide) (by decide) (by decide) (by decide) (by decide) (by decide)
  have g4 : gi M4 8 7 = 1 := by subst e4; rw [gi_si, if_neg (by decide)]; exact g3
  dsimp only
  rw [g4, h4.r8]
  refine ⟨h4.o8, fun z => absurd z (by decide), fun _ => ⟨h4.o8, h4.o104, fun M8 e8 => ⟨hk, hs, hX M8 ?_⟩⟩⟩
  subst e8
  exact h4.1.si (by decide) (by decide)
end LOD
