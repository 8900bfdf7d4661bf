/-! ===== put ===== -/
theorem N_one8 {x : Int32} (h1 : ¬ x < 1) (h8 : ¬ 8 < x) : ∃ k, 1 ≤ k ∧ k ≤ 8 ∧ x = N k := by
  rw [Int32.lt_iff_toInt_lt] at h1 h8
  have e1 : (1 : Int32).toInt = 1 := rfl
  have e8 : (8 : Int32).toInt = 8 := rfl
  rw [e1] at h1
  rw [e8] at h8
  refine ⟨x.toInt.toNat, by omega, by omega, ?_⟩
  rw [← Int32.toInt_inj, N_toInt (by omega)]
  omega
theorem N_dec (j : Nat) : N (j + 1) - 1 = N j := by
  rw [show (1 : Int32) = N 1 from rfl, N_sub (by omega)]
  rfl
theorem N_m1 (x : Int32) : x + (-1) = x - 1 := (Int32.sub_eq_add_neg x 1).symm
section PUT
variable {L : Nat} {xs : Nat → Int32} {t : Int32} {M : eM} {Q : Int32 → eM → Prop}
def y_P (M : eM) : Prop := e_ob M 8 11 ∧ gr M 8 6 = 104 ∧ e_ob M 104 5 ∧ gr M 104 0 = 105 ∧ e_ob M 105 7 ∧ gr M 105 0 = 106 ∧ M.1 = 292 ∧ M.2.1 106 = (20, 1500)
theorem y_P.si {a j : Nat} {x : Int32} (h : y_P M) : y_P (e_si M a j x) := h
theorem c_put33 (w : Int64) (hQ : ∀ M', y_J L xs 0 M' → Q 1 M') : ∀ (j p : Nat) (M : eM), p + j ≤ 8 → y_P M → y_J L xs 0 M → gi M 104 1 = N p → w_Mill_put_33 (j + 1) 8 w (N j - 1) M Q := by
  intro j
  induction j with
  | zero =>
    intro p M _ _ hJ _
    exact ⟨fun _ => ⟨Or.inr rfl, hQ M hJ⟩, fun c => absurd (by decide) c⟩
  | succ j ih =>
    intro p M hp hP hJ hg
    have hP0 := hP
    obtain ⟨p1, p2, p3, p4, p5, p6, p7, p8⟩ := hP
    rw [N_dec]
    unfold w_Mill_put_33
    rw [p2, p4, hg]
    refine ⟨fun c => absurd c (N_nn (by omega)), fun _ => ⟨p1, p3, p1, p3, p5, ?_⟩⟩
    refine y_set (a := 106) (n := 1500) p5 p6 (by decide) (by rw [p7]; decide) p8 (by omega) (by decide) ?_
    generalize ((w.toUInt64 >>> ((8 * N j).toInt64.toUInt64 &&& Int64.toUInt64 63)).toInt64.toInt32 &&& 255) = v
    have hP2 : y_P (e_si M 106 p v) := hP0.si
    have hg2 : gi (e_si M 106 p v) 104 1 = N p := by rw [gi_si, if_neg (by omega)]; exact hg
    rw [hP2.2.1, hg2]
    refine ⟨hP2.1, hP2.2.2.1, hP2.2.2.1, fun M3 e => ?_⟩
    subst e
    show w_Mill_put_33 (j + 1) 8 w (N j + (-1)) _ Q
    rw [N_m1]
    refine ih (p + 1) _ (by omega) hP2.si ((hJ.si (by decide) (by decide)).si (by decide) (by decide)) ?_
    rw [gi_si, if_pos ⟨rfl, rfl⟩]
    exact N_add p 1
theorem c_put (h : y_I L xs 292 287 M) (w : Int64) (n : Int32) (h0 : ¬ (¬ n < 1 ∧ ¬ 8 < n) → ∀ M', y_J L xs 0 M' → Q 0 M') (h1 : (¬ n < 1 ∧ ¬ 8 < n) → ∀ M', y_J L xs 0 M' → Q 1 M') : w_Mill_put 8 w n M Q := by
  have hJ := y_J.of h
  unfold w_Mill_put w_Mill_put_26
  rw [x_r8_6 h, x_i104_1 h]
  refine ⟨fun c => ⟨Or.inl rfl, h0 (fun z => z.1 c) M hJ⟩, fun c => ⟨fun c1 => ⟨Or.inl rfl, h0 (fun z => z.2 c1) M hJ⟩, fun c1 => ⟨x_o8 h, x_o104 h, fun _ => ?_, fun c2 => ?_⟩⟩⟩
  · obtain ⟨k, k1, k2, rfl⟩ := N_one8 c c1
    refine ⟨k + 1, ?_⟩
    exact c_put33 w (h1 ⟨c, c1⟩) k 0 M (by omega) ⟨x_o8 h, x_r8_6 h, x_o104 h, x_r104_0 h, x_o105 h, x_r105_0 h, h.1, by rw [h.2.1 106 (by decide) (by decide)]; decide +kernel⟩ hJ (x_i104_1 h)
  · obtain ⟨k, k1, k2, rfl⟩ := N_one8 c c1
    rw [show (0 : Int32) = N 0 from rfl, N_add, show (1500 : Int32) = N 1500 from rfl, N_le (by omega) (by omega)] at c2
    omega
theorem m_put35 (w : Int64) (hQ : ∀ M', y_K L 0 M' → Q 1 M') : ∀ (j p : Nat) (M : eM), p + j ≤ 8 → y_K L 0 M → gr M 241 2 = 242 → M.2.1 242 = (20, 1500) → gi M 241 1 = N p → w_Mod_put_35 (j + 1) 241 w (N j - 1) M Q := by
  intro j
  induction j with
  | zero =>
    intro p M _ hK _ _ _
    exact ⟨fun _ => ⟨Or.inr rfl, hQ M hK⟩, fun c => absurd (by decide) c⟩
  | succ j ih =>
    intro p M hp hK hr ht hg
    rw [N_dec]
    unfold w_Mod_put_35
    rw [hr, hg]
    refine ⟨fun c => absurd c (N_nn (by omega)), fun _ => ⟨hK.ob, hK.ob, ?_, fun M3 e => ?_⟩⟩
    · refine ⟨by decide, by have := hK.1; omega, by rw [ht], ?_⟩
      rw [ht]
      exact (N_in (by omega)).mpr (by omega)
    · rw [N_nat (by omega)] at e
      have k3 : y_K L 0 M3 := by subst e; exact hK.si (by omega)
      have hg3 : gi M3 241 1 = N p := by subst e; rw [gi_si, if_neg (by omega)]; exact hg
      have hr3 : gr M3 241 2 = 242 := by subst e; exact hr
      have ht3 : M3.2.1 242 = (20, 1500) := by subst e; exact ht
      rw [hg3]
      refine ⟨k3.ob, k3.ob, fun M4 e4 => ?_⟩
      subst e4
      show w_Mod_put_35 (j + 1) 241 w (N j + (-1)) _ Q
      rw [N_m1]
      refine ih (p + 1) _ (by omega) (k3.si (by decide)) hr3 ht3 ?_
      rw [gi_si, if_pos ⟨rfl, rfl⟩]
      exact N_add p 1
theorem m_put (h : y_J L xs t M) (w : Int64) (n : Int32) (h0 : ¬ (¬ n < 1 ∧ ¬ 8 < n) → ∀ M', y_K L 0 M' → Q 0 M') (h1 : (¬ n < 1 ∧ ¬ 8 < n) → ∀ M', y_K L 0 M' → Q 1 M') : w_Mod_put 241 w n M Q := by
  unfold w_Mod_put w_Mod_put_28
  refine ⟨h.ob, fun M1 e => ?_⟩
  have hJ : y_J L xs 0 M1 := by subst e; exact h.th 0
  rw [hJ.gi 1 (by decide) (by decide)]
  refine ⟨fun c => ⟨Or.inl rfl, h0 (fun z => z.1 c) M1 hJ.k⟩, fun c => ⟨fun c1 => ⟨Or.inl rfl, h0 (fun z => z.2 c1) M1 hJ.k⟩, fun c1 => ⟨hJ.ob, fun _ => ?_, fun c2 => ?_⟩⟩⟩
  · obtain ⟨k, k1, k2, rfl⟩ := N_one8 c c1
    refine ⟨k + 1, ?_⟩
    exact m_put35 w (h1 ⟨c, c1⟩) k 0 M1 (by omega) hJ.k hJ.2.2.2.2.2.2.1 hJ.2.2.2.2.1 (hJ.gi 1 (by decide) (by decide))
  · obtain ⟨k, k1, k2, rfl⟩ := N_one8 c c1
    rw [show (0 : Int32) = N 0 from rfl, N_add, show (1500 : Int32) = N 1500 from rfl, N_le (by omega) (by omega)] at c2
    omega
end PUT
