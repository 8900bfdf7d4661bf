/-! ===== pure: the class finds what is behind ===== -/
def hI (n : Nat) : Int32 := if n = 0 then -1 else if n = 1 then -2 else N (n - 2)
theorem hI2 {n : Nat} (h : 2 ≤ n) : hI n = N (n - 2) := by unfold hI; rw [if_neg (by omega), if_neg (by omega)]
theorem hI0 : hI 0 = -1 := rfl
theorem hI1 : hI 1 = -2 := rfl
theorem N_neg2 {a : Nat} (ha : a < 2147483648) : N a = -2 ↔ False := by
  rw [← Int32.toInt_inj, N_toInt ha]
  constructor
  · intro h
    have : (-2 : Int32).toInt = -2 := rfl
    omega
  · exact False.elim
theorem N_lt_neg2 {a : Nat} (ha : a < 2147483648) : (-2 : Int32) < N a := by
  rw [Int32.lt_iff_toInt_lt, N_toInt ha]
  have : (-2 : Int32).toInt = -2 := rfl
  omega
/-- the states of a method, as the class has them -/
def RT (P : Nat) (D : eF) (m : Nat) (T : Nat → eS) (M : eM) : Prop := ∀ j, j < D 174 m → gi M (P + 59) (D 5 m + j) = hI (T j).1 ∧ (2 ≤ (T j).1 → PKr (gl M (P + 60) (D 5 m + j)) (T j).2 ∧ PKr (gl M (P + 61) (D 5 m + j)) (fun i => (T j).2 (8 + i)))
def CUR (s : eS) (M : eM) : Prop := gi M 11 6 = hI s.1 ∧ s.1 ≠ 0 ∧ (2 ≤ s.1 → PKr (gl M 11 7) s.2 ∧ PKr (gl M 11 8) (fun i => s.2 (8 + i)))
/-- the verifier at work on method m -/
def VC (L : Nat) (xs : Nat → Int32) (P : Nat) (D : eF) (m : Nat) (M : eM) : Prop := Y L xs M ∧ gr M 11 3 = P ∧ gr M 11 4 = P + 24 + 2 * m ∧ KC P D M ∧ BC1 P D m M
theorem VC.fx {oi ol : Nat → Nat → Prop} {L xs P D m M M'} (h : VC L xs P D m M) (hD : KD D) (g : FX oi ol M M') (ho : ∀ a j, a < 8 ∨ (a = P ∧ (j = 1 ∨ j = 2 ∨ j = 7 ∨ j = 9)) ∨ (P + 1 ≤ a ∧ a ≤ P + 57) → ¬ oi a j) : VC L xs P D m M' := by
  obtain ⟨h1, h2, h3, h4, h5⟩ := h
  exact ⟨g.Y (fun a j ha => ho a j (Or.inl ha)) h1, by rw [g.gr]; exact h2, by rw [g.gr]; exact h3, h4.fx hD g (fun a j z => ho a j (by omega)), fun j hj => by
    rw [g.gi (ho _ _ (by omega))]; exact h5 j hj⟩
section FB
variable {L : Nat} {xs : Nat → Int32} {P : Nat} {D : eF} {m j : Nat} {M : eM}
theorem c_ret {Q : Int32 → eM → Prop} (hP : PP P) (hD : KD D) (hm : m < D 0 2) (hV : VC L xs P D m M) (hg : good D m j) (hj : j < D 174 m) (hc : cdD D m j = 47 ∨ cdD D m j = 48) (hQ : Q (N (rtD D m j)) M) : w_Verifier_returnedAt 11 (N (D 5 m + j)) (N (cdD D m j)) M Q := by
  obtain ⟨hY, h3, h4, hK, hB⟩ := hV
  obtain ⟨g0, g1, g2, g3, g4, g5, g6, g7⟩ := good_f hD hm hg
  have hd := hD.1
  have h2 := (hD.2.2.2.1 m hm).1
  have hj1 : j + 1 < D 174 m := by
    rcases hc with c | c
    · exact (g4 c).1
    · exact (g5 c).1
  obtain ⟨b1, b2, b3⟩ := hK.b hD hm hj1
  rw [show D 5 m + (j + 1) = D 5 m + j + 1 by omega] at b1
  unfold w_Verifier_returnedAt w_Verifier_returnedAt_45
  simp (disch := omega) only [N_lit, yo11 hY, h3, po hY hP, true_and, pr0 hY hP, pi1 hY hP, N_add, N_in, N_nat, b1, N_eq, pr8 hY hP, pr10 hY hP]
  unfold rtD at hQ
  refine ⟨by omega, fun e => ?_, fun e => ?_⟩
  · have e48 : cdD D m j = 48 := by omega
    have x := (g5 e48).2
    rw [if_neg e] at hQ
    simp (disch := omega) only [psr hY hP, pso hY hP, pa6 hY hP, N_in, true_and, (hK.2.2.2.1 _ x).2.1]
    exact ⟨Or.inr (by omega), hQ⟩
  · have x := (g4 e).2
    rw [if_pos e] at hQ
    simp (disch := omega) only [pmr hY hP, pmo hY hP, pa23 hY hP, N_in, true_and, (hK.2.2.2.2.1 _ x).2.1]
    exact ⟨Or.inr (by omega), hQ⟩
theorem c_takes {Q : Int32 → eM → Prop} (hP : PP P) (hD : KD D) (hm : m < D 0 2) (hV : VC L xs P D m M) (hg : good D m j) (hj : j < D 174 m) (hQ : Q (N (tkD D m j)) M) : w_Verifier_takesAt 11 (N (D 5 m + j)) (N (cdD D m j)) M Q := by
  obtain ⟨hY, h3, h4, hK, hB⟩ := hV
  obtain ⟨g0, g1, g2, g3, g4, g5, g6, g7⟩ := good_f hD hm hg
  have hd := hD.1
  have h2 := (hD.2.2.2.1 m hm).1
  unfold w_Verifier_takesAt
  unfold tkD at hQ
  simp (disch := omega) only [N_lit, yo11 hY, h3, po hY hP, true_and, pr0 hY hP, pi1 hY hP, N_add, N_in, N_nat, N_eq, pr8 hY hP, pr10 hY hP, yi3 hY]
  refine ⟨fun e => ⟨fun e2 => ?_, fun e2 => ?_⟩, fun e => ?_⟩
  · rw [if_neg e, if_neg e2] at hQ
    rw [(hY.tk (by omega)).1]
    exact ⟨by omega, hQ⟩
  · obtain ⟨x1, x2⟩ := g5 e2
    obtain ⟨b1, b2, b3⟩ := hK.b hD hm x1
    rw [show D 5 m + (j + 1) = D 5 m + j + 1 by omega] at b1
    rw [if_neg e, if_pos e2] at hQ
    rw [b1]
    simp (disch := omega) only [N_nat, psr hY hP, pso hY hP, pa6 hY hP, N_in, true_and, (hK.2.2.2.1 _ x2).1, N_add]
    exact ⟨by omega, Or.inr (by omega), hQ⟩
  · obtain ⟨x1, x2⟩ := g4 e
    obtain ⟨b1, b2, b3⟩ := hK.b hD hm x1
    rw [show D 5 m + (j + 1) = D 5 m + j + 1 by omega] at b1
    rw [if_pos e] at hQ
    rw [b1]
    simp (disch := omega) only [N_nat, pmr hY hP, pmo hY hP, pa23 hY hP, N_in, true_and, (hK.2.2.2.2.1 _ x2).1]
    exact ⟨by omega, Or.inr (by omega), hQ⟩
theorem c_puts {Q : Int32 → eM → Prop} (hP : PP P) (hD : KD D) (hm : m < D 0 2) (hV : VC L xs P D m M) (hg : good D m j) (hj : j < D 174 m) (hQ : Q (N (puD D m j)) M) : w_Verifier_putsAt 11 (N (D 5 m + j)) (N (cdD D m j)) M Q := by
  have hY := hV.1
  obtain ⟨g0, -⟩ := good_f hD hm hg
  have hrt := (tk_le hD hm hg).2.2
  have hC := hD.1.1
  have h12 : cdD D m j = 47 ∨ cdD D m j = 48 → w_Verifier_putsAt_12 11 (N (D 5 m + j)) (N (cdD D m j)) M Q := by
    intro c
    unfold puD at hQ
    rw [if_pos c] at hQ
    unfold w_Verifier_putsAt_12 w_Verifier_putsAt_26
    refine ⟨yo11 hY, c_ret hP hD hm hV hg hj c ?_⟩
    have := hrt c
    rw [show (0 : Int32) = N 0 from rfl, N_eq (by unfold vt at this; omega) (by omega)]
    exact ⟨fun e => by rw [if_neg e] at hQ; exact hQ, fun e => by rw [if_pos e] at hQ; exact hQ⟩
  unfold w_Verifier_putsAt
  simp (disch := omega) only [N_lit, N_eq, yi4 hY, N_in, N_nat]
  refine ⟨fun e => h12 (Or.inl e), fun e => ⟨fun e2 => ⟨by omega, ?_⟩, fun e2 => h12 (Or.inr e2)⟩⟩
  unfold puD at hQ
  rw [if_neg (by omega)] at hQ
  rw [(hY.tk (by omega)).2]
  exact hQ
theorem c_kp {Q : Int32 → eM → Prop} (hP : PP P) (hD : KD D) (hm : m < D 0 2) (hV : VC L xs P D m M) (hg : good D m j) (hj : j < D 174 m) (hQ : Q (N (kpD D m j)) M) : w_Verifier_kindPut 11 (N (D 5 m + j)) (N (cdD D m j)) M Q := by
  have hV0 := hV
  obtain ⟨hY, h3, h4, hK, hB⟩ := hV
  obtain ⟨g0, g1, g2, g3, g4, g5, g6, g7⟩ := good_f hD hm hg
  have hd := hD.1
  have h2 := (hD.2.2.2.1 m hm).1
  unfold kpD at hQ
  have h70 : cdD D m j = 38 ∨ cdD D m j = 46 → w_Verifier_kindPut_70 11 (N (D 5 m + j)) M Q := by
    intro c
    rw [if_neg (by omega), if_pos c] at hQ
    obtain ⟨x1, x2⟩ := g2 (by omega)
    obtain ⟨b1, b2, b3⟩ := hK.b hD hm x1
    rw [show D 5 m + (j + 1) = D 5 m + j + 1 by omega] at b1
    unfold w_Verifier_kindPut_70
    simp (disch := omega) only [N_lit, yo11 hY, h3, po hY hP, true_and, pr0 hY hP, pi1 hY hP, N_add, N_in, N_nat, b1]
    exact ⟨by omega, hQ⟩
  have h122 : cdD D m j = 47 ∨ cdD D m j = 48 → w_Verifier_kindPut_122 11 (N (D 5 m + j)) (N (cdD D m j)) M Q := by
    intro c
    rw [if_neg (by omega), if_neg (by omega), if_neg (by omega), if_neg (by omega), if_pos c] at hQ
    exact ⟨yo11 hY, c_ret hP hD hm hV0 hg hj c hQ⟩
  unfold w_Verifier_kindPut
  simp (disch := omega) only [N_lit, N_eq, yo11 hY, h3, po hY hP, true_and, pr0 hY hP, pi1 hY hP, N_add, N_in, N_nat, pr6 hY hP]
  refine ⟨fun e => by rw [if_pos e] at hQ; exact hQ, fun e2 => ⟨fun e => h70 (Or.inl e), fun e38 => ⟨fun e => ?_, fun e39 => ⟨fun e => ?_, fun e41 => ⟨fun e => h70 (Or.inr e), fun e46 => ⟨fun e => h122 (Or.inl e), fun e47 => ⟨fun e => h122 (Or.inr e), fun e48 => ?_⟩⟩⟩⟩⟩⟩⟩
  · rw [if_neg e2, if_neg (by omega), if_pos e] at hQ
    obtain ⟨x1, x2, x3, x4⟩ := g3 (Or.inl e)
    obtain ⟨b1, b2, b3⟩ := hK.b hD hm (p := j + 1) (by omega)
    obtain ⟨c1, c2, c3⟩ := hK.b hD hm x1
    rw [show D 5 m + (j + 1) = D 5 m + j + 1 by omega] at b1
    rw [show D 5 m + (j + 2) = D 5 m + j + 2 by omega] at c1
    rw [b1, c1]
    simp (disch := omega) only [N_mul, N_add, pi5 hY hP, N_in, N_nat, (hK.2.2.1 _ x2).2.2 _ x3]
    exact ⟨by omega, by omega, by omega, hQ⟩
  · rw [if_neg e2, if_neg (by omega), if_neg e39, if_pos e] at hQ; exact hQ
  · rw [if_neg e2, if_neg (by omega), if_neg e39, if_neg e41, if_neg (by omega)] at hQ; exact hQ
end FB
