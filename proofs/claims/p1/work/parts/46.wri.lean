/-! ===== the calls that write: tiers, room, give, put, run ===== -/
def v_in (a b c d : Int32) : Prop := ¬ a < 1 ∧ ¬ 1000 < a ∧ ¬ b < 1 ∧ ¬ 1000 < b ∧ ¬ c < 0 ∧ ¬ 4 < c ∧ ¬ d < 0 ∧ ¬ 120 < d
section WRI
variable {L : Nat} {xs : Nat → Int32} {t : Int32} {M : eM} {Q : Int32 → eM → Prop} {X : Nat → eM → Prop}
theorem e_ob_si {o ci a j : Nat} {x : Int32} (h : e_ob M o ci) : e_ob (e_si M a j x) o ci := h
theorem c_tiers (h : y_I L xs 292 287 M) (a b c d : Int32) (h0 : ¬ v_in a b c d → ∀ M', y_J L xs 0 M' → Q 0 M') (h1 : v_in a b c d → ∀ M', y_J L xs 0 M' → Q 1 M') : w_Mill_tiers 8 a b c d M Q := by
  have hJ := y_J.of h
  unfold w_Mill_tiers w_Mill_tiers_24 w_Mill_tiers_47
  rw [x_r8_3 h, x_r204_2 h]
  refine ⟨fun c1 => ⟨Or.inl rfl, h0 (fun z => z.1 c1) M hJ⟩, fun c1 => ⟨fun c2 => ⟨Or.inl rfl, h0 (fun z => z.2.1 c2) M hJ⟩, fun c2 => ⟨fun c3 => ⟨Or.inl rfl, h0 (fun z => z.2.2.1 c3) M hJ⟩, fun c3 => ⟨fun c4 => ⟨fun c5 => ⟨Or.inl rfl, h0 (fun z => z.2.2.2.2.1 c5) M hJ⟩, fun c5 => ⟨fun c6 => ⟨Or.inl rfl, h0 (fun z => z.2.2.2.2.2.1 c6) M hJ⟩, fun c6 => ⟨fun c7 => ⟨Or.inl rfl, h0 (fun z => z.2.2.2.2.2.2.1 c7) M hJ⟩, fun c7 => ⟨fun c8 => ?_, fun c8 => ⟨Or.inl rfl, h0 (fun z => c8 (Int32.not_lt.mp z.2.2.2.2.2.2.2)) M hJ⟩⟩⟩⟩⟩, fun c4 => ⟨Or.inl rfl, h0 (fun z => c4 (Int32.not_lt.mp z.2.2.2.1)) M hJ⟩⟩⟩⟩⟩
  have hv : v_in a b c d := ⟨c1, c2, c3, Int32.not_lt.mpr c4, c5, c6, c7, Int32.not_lt.mpr c8⟩
  have o := x_o225 h
  refine ⟨x_o8 h, x_o204 h, o, fun M1 e1 => ?_⟩
  subst e1
  refine ⟨e_ob_si o, fun M2 e2 => ?_⟩
  subst e2
  refine ⟨e_ob_si o, fun M3 e3 => ?_⟩
  subst e3
  refine ⟨e_ob_si o, fun M4 e4 => ?_⟩
  subst e4
  exact ⟨Or.inr rfl, h1 hv _ ((((hJ.si (by decide) (by decide)).si (by decide) (by decide)).si (by decide) (by decide)).si (by decide) (by decide))⟩
theorem m_tiers (h : y_J L xs t M) (a b c d : Int32) (h0 : ¬ v_in a b c d → ∀ M', y_K L 0 M' → Q 0 M') (h1 : v_in a b c d → ∀ M', y_K L 0 M' → Q 1 M') : w_Mod_tiers 241 a b c d M Q := by
  unfold w_Mod_tiers w_Mod_tiers_47
  refine ⟨h.ob, fun M1 e => ?_⟩
  have hJ : y_J L xs 0 M1 := by subst e; exact h.th 0
  refine m_within _ _ _ (fun z => ⟨fun _ => ⟨Or.inl rfl, h0 (fun q => ?_) _ hJ.k⟩, fun w => absurd rfl w⟩) (fun a1 a2 => ⟨fun w => absurd w (by decide), fun _ => ?_⟩)
  · rcases z with z | z
    · exact q.1 z
    · exact q.2.1 z
  refine m_within _ _ _ (fun z => ⟨fun _ => ⟨Or.inl rfl, h0 (fun q => ?_) _ hJ.k⟩, fun w => absurd rfl w⟩) (fun b1 b2 => ⟨fun w => absurd w (by decide), fun _ => ?_⟩)
  · rcases z with z | z
    · exact q.2.2.1 z
    · exact q.2.2.2.1 z
  refine m_within _ _ _ (fun z => ⟨fun _ => ⟨Or.inl rfl, h0 (fun q => ?_) _ hJ.k⟩, fun w => absurd rfl w⟩) (fun d1 d2 => ⟨fun w => absurd w (by decide), fun _ => ?_⟩)
  · rcases z with z | z
    · exact q.2.2.2.2.1 z
    · exact q.2.2.2.2.2.1 z
  refine m_within _ _ _ (fun z => ⟨fun w => absurd rfl w, fun _ => ⟨Or.inl rfl, h0 (fun q => ?_) _ hJ.k⟩⟩) (fun g1 g2 => ⟨fun _ => ?_, fun w => absurd w (by decide)⟩)
  · rcases z with z | z
    · exact q.2.2.2.2.2.2.1 z
    · exact q.2.2.2.2.2.2.2 z
  have hv : v_in a b c d := ⟨a1, a2, b1, b2, d1, d2, g1, g2⟩
  have hK := hJ.k
  refine ⟨hK.ob, fun M2 e2 => ?_⟩
  have k2 : y_K L 0 M2 := by subst e2; exact hK.si (by decide)
  refine ⟨k2.ob, fun M3 e3 => ?_⟩
  have k3 : y_K L 0 M3 := by subst e3; exact k2.si (by decide)
  refine ⟨k3.ob, fun M4 e4 => ?_⟩
  have k4 : y_K L 0 M4 := by subst e4; exact k3.si (by decide)
  refine ⟨k4.ob, fun M5 e5 => ?_⟩
  have k5 : y_K L 0 M5 := by subst e5; exact k4.si (by decide)
  exact ⟨Or.inr rfl, h1 hv M5 k5⟩
theorem c_room (h : y_I L xs 292 287 M) (a : Int32) (h0 : ¬ (¬ a < 8 ∧ ¬ 4000 < a) → ∀ M', y_J L xs 0 M' → Q 0 M') (h1 : (¬ a < 8 ∧ ¬ 4000 < a) → ∀ M', y_J L xs 0 M' → Q 1 M') : w_Mill_room 8 a M Q := by
  have hJ := y_J.of h
  unfold w_Mill_room w_Mill_room_13
  refine ⟨fun c1 => ⟨Or.inl rfl, h0 (fun z => z.1 c1) M hJ⟩, fun c1 => ⟨fun c2 => ⟨x_o8 h, fun M1 e => ?_⟩, fun c2 => ⟨Or.inl rfl, h0 (fun z => c2 (Int32.not_lt.mp z.2)) M hJ⟩⟩⟩
  subst e
  exact ⟨Or.inr rfl, h1 ⟨c1, Int32.not_lt.mpr c2⟩ _ (hJ.si (by decide) (by decide))⟩
theorem m_room (h : y_J L xs t M) (a : Int32) (h0 : ¬ (¬ a < 8 ∧ ¬ 4000 < a) → ∀ M', y_K L 0 M' → Q 0 M') (h1 : (¬ a < 8 ∧ ¬ 4000 < a) → ∀ M', y_K L 0 M' → Q 1 M') : w_Mod_room 241 a M Q := by
  unfold w_Mod_room
  refine ⟨h.ob, fun M1 e => ?_⟩
  have hJ : y_J L xs 0 M1 := by subst e; exact h.th 0
  refine m_within _ _ _ (fun z => ⟨fun w => absurd rfl w, fun _ => ⟨Or.inl rfl, h0 (fun q => ?_) _ hJ.k⟩⟩) (fun g1 g2 => ⟨fun _ => ⟨hJ.ob, fun M2 e2 => ?_⟩, fun w => absurd w (by decide)⟩)
  · rcases z with z | z
    · exact q.1 z
    · exact q.2 z
  subst e2
  exact ⟨Or.inr rfl, h1 ⟨g1, g2⟩ _ (hJ.k.si (by decide))⟩
theorem c_give (h : y_I L xs 292 287 M) (a : Int32) (h1 : ∀ M', y_J L xs 0 M' → Q 1 M') : w_Mill_give 8 a M Q := by
  have hJ := y_J.of h
  unfold w_Mill_give
  rw [x_r8_3 h]
  refine ⟨x_o8 h, x_o204 h, ?_⟩
  unfold w_Machine_takeInput
  rw [x_i204_12 h, x_i204_14 h, x_r204_13 h]
  have o := x_o204 h
  refine ⟨o, fun _ => ⟨o, o, o, by decide, x_o239 h, ?_⟩, fun c => absurd (by decide) c⟩
  show w_Row_set 239 (N 0) a M _
  refine y_set (a := 240) (n := 100) (x_o239 h) (x_r239_0 h) (by decide) (by rw [h.1]; decide) (by rw [h.2.1 240 (by decide) (by decide)]; decide +kernel) (by decide) (by decide) ?_
  refine ⟨e_ob_si o, e_ob_si o, fun M2 e => ?_⟩
  subst e
  exact ⟨Or.inr rfl, Or.inr rfl, h1 _ ((hJ.si (by decide) (by decide)).si (by decide) (by decide))⟩
theorem m_give (h : y_J L xs t M) (a : Int32) (h1 : ∀ M', y_K L 0 M' → Q 1 M') : w_Mod_give 241 a M Q := by
  unfold w_Mod_give
  refine ⟨h.ob, fun M1 e => ?_⟩
  have hJ : y_J L xs 0 M1 := by subst e; exact h.th 0
  have o := hJ.ob
  rw [hJ.gi 39 (by decide) (by decide)]
  refine ⟨o, fun _ => ⟨o, o, ?_, fun M2 e2 => ?_⟩, fun c => absurd c (by decide)⟩
  · rw [show gr M1 241 40 = 263 from hJ.2.2.2.2.2.2.2.1]
    refine ⟨by decide, by have := hJ.1; omega, by rw [hJ.2.2.2.2.2.1], ?_⟩
    rw [hJ.2.2.2.2.2.1]
    unfold vp_in
    decide
  · rw [show gr M1 241 40 = 263 from hJ.2.2.2.2.2.2.2.1] at e2
    have k2 : y_K L 0 M2 := by subst e2; exact hJ.k.si (by decide)
    refine ⟨k2.ob, k2.ob, fun M3 e3 => ?_⟩
    subst e3
    exact ⟨Or.inr rfl, h1 _ (k2.si (by decide))⟩
theorem c_run {kc ks : Nat} (h : y_I L xs 292 287 M) (x : Int32) (hk : 1 ≤ kc) (hs : 6 ≤ ks) (h1 : ¬ (¬ x < 1 ∧ ¬ 2000 < x) → X 91 M) (h2 : (¬ x < 1 ∧ ¬ 2000 < x) → X 92 M) : w_Mill_run kc ks 8 x M Q X := by
  unfold w_Mill_run w_Mill_run_12
  rw [x_r8_3 h, x_i204_7 h]
  refine ⟨fun c => ⟨hk, hs, h1 (fun z => z.1 c)⟩, fun c => ⟨fun c1 => ⟨x_o8 h, x_o204 h, fun d => absurd d (by decide), fun _ => ⟨hk, hs, h2 ⟨c, Int32.not_lt.mpr c1⟩⟩⟩, fun c1 => ⟨hk, hs, h1 (fun z => c1 (Int32.not_lt.mp z.2))⟩⟩⟩
theorem m_run (h : y_J L xs t M) (x : Int32) (h1 : ¬ (¬ x < 1 ∧ ¬ 2000 < x) → ∀ M', y_K L 1 M' → Q 0 M') (h2 : (¬ x < 1 ∧ ¬ 2000 < x) → ∀ M', y_K L 2 M' → Q 0 M') : w_Mod_run 241 x M Q := by
  unfold w_Mod_run
  refine m_within _ _ _ (fun z => ⟨fun w => absurd rfl w, fun _ => ⟨h.ob, m_raise h.k 1 (h1 (fun q => ?_))⟩⟩) (fun g1 g2 => ⟨fun _ => ?_, fun w => absurd w (by decide)⟩)
  · rcases z with z | z
    · exact q.1 z
    · exact q.2 z
  · rw [h.gi 41 (by decide) (by decide)]
    exact ⟨h.ob, fun d => absurd d (by decide), fun _ => ⟨h.ob, m_raise h.k 2 (h2 ⟨g1, g2⟩)⟩⟩
end WRI
