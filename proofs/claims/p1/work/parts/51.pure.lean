theorem y_I0 (L : Nat) (xs : Nat → Int32) : y_I L xs 8 0 (e_M0 L xs) := by
  refine ⟨rfl, fun k h1 h2 => absurd h1 (by omega), fun k q hk => absurd hk (by omega), ?_, rfl, fun j => rfl, Nat.le_refl _⟩
  intro a j ha _
  show (if a = 1 then xs j else if a = 2 then e_sz.getD j 0 else if a = 3 then e_tk.getD j 0 else if a = 4 then e_pu.getD j 0 else 0) = 0
  rw [if_neg (by omega), if_neg (by omega), if_neg (by omega), if_neg (by omega)]
/-- YOUR PART's pure statement, shown -/
theorem p_pure : e_pure := by
  intro L xs hL
  unfold w_Law_law
  have h0 := y_I0 L xs
  refine ⟨by decide, by decide, y_new (b' := 9) h0 (by decide +kernel) rfl fun M1 h1 => ?_⟩
  rw [h0.1]
  refine ⟨(by decide +kernel), 232, 39929, (by decide +kernel), (by decide +kernel), ?_⟩
  refine s_Mill_init_8 h1 (fun M2 h2 => ?_)
  refine ⟨(by decide +kernel), (by decide +kernel), y_new (b' := 242) h2 (by decide +kernel) rfl fun M5 h5 => ?_⟩
  rw [h2.1]
  refine ⟨(by decide +kernel), 49, 257808, (by decide +kernel), (by decide +kernel), ?_⟩
  refine s_Mod_init_241 h5 (fun M6 h6 => ?_)
  refine ⟨(by decide +kernel), (by decide +kernel), (by decide +kernel), (by decide +kernel), y_new (b' := 292) h6 (by decide +kernel) rfl fun M9 h9 => ?_⟩
  rw [h6.1]
  refine ⟨1 + 1, ?_⟩
  by_cases h5L : L = 5
  · subst h5L
    exact a_one h9 (by decide +kernel) (by decide +kernel) (fun _ => rfl)
  · refine a_end (n := 1) (L := L) (y_J.of h9).1 (y_J.of h9).2.1 ?_ rfl
    have : L = 0 ∨ L = 1 ∨ L = 2 ∨ L = 3 ∨ L = 4 := by omega
    rcases this with rfl | rfl | rfl | rfl | rfl <;> decide
