theorem s_Shape_init_21 {L : Nat} {xs : Nat → Int32} {M0 : eM} {Q : eM → Prop} (h0 : y_I L xs 22 11 M0) (hQ : ∀ M, y_I L xs 24 13 M → Q M) : w_Shape_init 2 5 21 M0 Q := by
  unfold w_Shape_init
  refine ⟨(by decide +kernel), ?_⟩
  refine ⟨(by decide +kernel), (by decide +kernel), y_new (b' := 23) h0 (by decide +kernel) rfl (fun M1 h1 => ?_)⟩
  rw [h0.1]
  refine ⟨(by decide +kernel), 1, 4, (by decide +kernel), (by decide +kernel), ?_⟩
  refine y_row (n := 4) (b' := 24) (r' := 12) h1 (by decide +kernel) (by decide +kernel) (by decide +kernel) (by decide +kernel) (by decide +kernel) (by decide +kernel) (by decide +kernel) (by decide +kernel) rfl rfl (fun M2 h2 => ?_)
  refine ⟨(h2.ob 21 8 (by decide +kernel) (by decide +kernel) (by decide +kernel)), y_sr (r' := 13) h2 (by decide +kernel) (by decide +kernel) rfl (fun M3 h3 => ?_)⟩
  exact hQ _ h3
theorem s_Shape_init_24 {L : Nat} {xs : Nat → Int32} {M0 : eM} {Q : eM → Prop} (h0 : y_I L xs 25 14 M0) (hQ : ∀ M, y_I L xs 27 16 M → Q M) : w_Shape_init 2 5 24 M0 Q := by
  unfold w_Shape_init
  refine ⟨(by decide +kernel), ?_⟩
  refine ⟨(by decide +kernel), (by decide +kernel), y_new (b' := 26) h0 (by decide +kernel) rfl (fun M1 h1 => ?_)⟩
  rw [h0.1]
  refine ⟨(by decide +kernel), 1, 4, (by decide +kernel), (by decide +kernel), ?_⟩
  refine y_row (n := 4) (b' := 27) (r' := 15) h1 (by decide +kernel) (by decide +kernel) (by decide +kernel) (by decide +kernel) (by decide +kernel) (by decide +kernel) (by decide +kernel) (by decide +kernel) rfl rfl (fun M2 h2 => ?_)
  refine ⟨(h2.ob 24 8 (by decide +kernel) (by decide +kernel) (by decide +kernel)), y_sr (r' := 16) h2 (by decide +kernel) (by decide +kernel) rfl (fun M3 h3 => ?_)⟩
  exact hQ _ h3
theorem s_Shape_init_27 {L : Nat} {xs : Nat → Int32} {M0 : eM} {Q : eM → Prop} (h0 : y_I L xs 28 17 M0) (hQ : ∀ M, y_I L xs 30 19 M → Q M) : w_Shape_init 2 5 27 M0 Q := by
  unfold w_Shape_init
  refine ⟨(by decide +kernel), ?_⟩
  refine ⟨(by decide +kernel), (by decide +kernel), y_new (b' := 29) h0 (by decide +kernel) rfl (fun M1 h1 => ?_)⟩
  rw [h0.1]
  refine ⟨(by decide +kernel), 1, 4, (by decide +kernel), (by decide +kernel), ?_⟩
  refine y_row (n := 4) (b' := 30) (r' := 18) h1 (by decide +kernel) (by decide +kernel) (by decide +kernel) (by decide +kernel) (by decide +kernel) (by decide +kernel) (by decide +kernel) (by decide +kernel) rfl rfl (fun M2 h2 => ?_)
  refine ⟨(h2.ob 27 8 (by decide +kernel) (by decide +kernel) (by decide +kernel)), y_sr (r' := 19) h2 (by decide +kernel) (by decide +kernel) rfl (fun M3 h3 => ?_)⟩
  exact hQ _ h3
theorem s_Shape_init_30 {L : Nat} {xs : Nat → Int32} {M0 : eM} {Q : eM → Prop} (h0 : y_I L xs 31 20 M0) (hQ : ∀ M, y_I L xs 33 22 M → Q M) : w_Shape_init 2 5 30 M0 Q := by
  unfold w_Shape_init
  refine ⟨(by decide +kernel), ?_⟩
  refine ⟨(by decide +kernel), (by decide +kernel), y_new (b' := 32) h0 (by decide +kernel) rfl (fun M1 h1 => ?_)⟩
  rw [h0.1]
  refine ⟨(by decide +kernel), 1, 4, (by decide +kernel), (by decide +kernel), ?_⟩
  refine y_row (n := 4) (b' := 33) (r' := 21) h1 (by decide +kernel) (by decide +kernel) (by decide +kernel) (by decide +kernel) (by decide +kernel) (by decide +kernel) (by decide +kernel) (by decide +kernel) rfl rfl (fun M2 h2 => ?_)
  refine ⟨(h2.ob 30 8 (by decide +kernel) (by decide +kernel) (by decide +kernel)), y_sr (r' := 22) h2 (by decide +kernel) (by decide +kernel) rfl (fun M3 h3 => ?_)⟩
  exact hQ _ h3
theorem s_Shape_init_33 {L : Nat} {xs : Nat → Int32} {M0 : eM} {Q : eM → Prop} (h0 : y_I L xs 34 23 M0) (hQ : ∀ M, y_I L xs 36 25 M → Q M) : w_Shape_init 2 5 33 M0 Q := by
  unfold w_Shape_init
  refine ⟨(by decide +kernel), ?_⟩
  refine ⟨(by decide +kernel), (by decide +kernel), y_new (b' := 35) h0 (by decide +kernel) rfl (fun M1 h1 => ?_)⟩
  rw [h0.1]
  refine ⟨(by decide +kernel), 1, 4, (by decide +kernel), (by decide +kernel), ?_⟩
  refine y_row (n := 4) (b' := 36) (r' := 24) h1 (by decide +kernel) (by decide +kernel) (by decide +kernel) (by decide +kernel) (by decide +kernel) (by decide +kernel) (by decide +kernel) (by decide +kernel) rfl rfl (fun M2 h2 => ?_)
  refine ⟨(h2.ob 33 8 (by decide +kernel) (by decide +kernel) (by decide +kernel)), y_sr (r' := 25) h2 (by decide +kernel) (by decide +kernel) rfl (fun M3 h3 => ?_)⟩
  exact hQ _ h3
theorem s_Shape_init_36 {L : Nat} {xs : Nat → Int32} {M0 : eM} {Q : eM → Prop} (h0 : y_I L xs 37 26 M0) (hQ : ∀ M, y_I L xs 39 28 M → Q M) : w_Shape_init 2 5 36 M0 Q := by
  unfold w_Shape_init
  refine ⟨(by decide +kernel), ?_⟩
  refine ⟨(by decide +kernel), (by decide +kernel), y_new (b' := 38) h0 (by decide +kernel) rfl (fun M1 h1 => ?_)⟩
  rw [h0.1]
  refine ⟨(by decide +kernel), 1, 4, (by decide +kernel), (by decide +kernel), ?_⟩
  refine y_row (n := 4) (b' := 39) (r' := 27) h1 (by decide +kernel) (by decide +kernel) (by decide +kernel) (by decide +kernel) (by decide +kernel) (by decide +kernel) (by decide +kernel) (by decide +kernel) rfl rfl (fun M2 h2 => ?_)
  refine ⟨(h2.ob 36 8 (by decide +kernel) (by decide +kernel) (by decide +kernel)), y_sr (r' := 28) h2 (by decide +kernel) (by decide +kernel) rfl (fun M3 h3 => ?_)⟩
  exact hQ _ h3
theorem s_Shape_init_39 {L : Nat} {xs : Nat → Int32} {M0 : eM} {Q : eM → Prop} (h0 : y_I L xs 40 29 M0) (hQ : ∀ M, y_I L xs 42 31 M → Q M) : w_Shape_init 2 5 39 M0 Q := by
  unfold w_Shape_init
  refine ⟨(by decide +kernel), ?_⟩
  refine ⟨(by decide +kernel), (by decide +kernel), y_new (b' := 41) h0 (by decide +kernel) rfl (fun M1 h1 => ?_)⟩
  rw [h0.1]
  refine ⟨(by decide +kernel), 1, 4, (by decide +kernel), (by decide +kernel), ?_⟩
  refine y_row (n := 4) (b' := 42) (r' := 30) h1 (by decide +kernel) (by decide +kernel) (by decide +kernel) (by decide +kernel) (by decide +kernel) (by decide +kernel) (by decide +kernel) (by decide +kernel) rfl rfl (fun M2 h2 => ?_)
  refine ⟨(h2.ob 39 8 (by decide +kernel) (by decide +kernel) (by decide +kernel)), y_sr (r' := 31) h2 (by decide +kernel) (by decide +kernel) rfl (fun M3 h3 => ?_)⟩
  exact hQ _ h3
theorem s_Shape_init_42 {L : Nat} {xs : Nat → Int32} {M0 : eM} {Q : eM → Prop} (h0 : y_I L xs 43 32 M0) (hQ : ∀ M, y_I L xs 45 34 M → Q M) : w_Shape_init 2 5 42 M0 Q := by
  unfold w_Shape_init
  refine ⟨(by decide +kernel), ?_⟩
  refine ⟨(by decide +kernel), (by decide +kernel), y_new (b' := 44) h0 (by decide +kernel) rfl (fun M1 h1 => ?_)⟩
  rw [h0.1]
  refine ⟨(by decide +kernel), 1, 4, (by decide +kernel), (by decide +kernel), ?_⟩
  refine y_row (n := 4) (b' := 45) (r' := 33) h1 (by decide +kernel) (by decide +kernel) (by decide +kernel) (by decide +kernel) (by decide +kernel) (by decide +kernel) (by decide +kernel) (by decide +kernel) rfl rfl (fun M2 h2 => ?_)
  refine ⟨(h2.ob 42 8 (by decide +kernel) (by decide +kernel) (by decide +kernel)), y_sr (r' := 34) h2 (by decide +kernel) (by decide +kernel) rfl (fun M3 h3 => ?_)⟩
  exact hQ _ h3
theorem s_Shape_init_46 {L : Nat} {xs : Nat → Int32} {M0 : eM} {Q : eM → Prop} (h0 : y_I L xs 47 36 M0) (hQ : ∀ M, y_I L xs 49 38 M → Q M) : w_Shape_init 2 5 46 M0 Q := by
  unfold w_Shape_init
  refine ⟨(by decide +kernel), ?_⟩
  refine ⟨(by decide +kernel), (by decide +kernel), y_new (b' := 48) h0 (by decide +kernel) rfl (fun M1 h1 => ?_)⟩
  rw [h0.1]
  refine ⟨(by decide +kernel), 1, 4, (by decide +kernel), (by decide +kernel), ?_⟩
  refine y_row (n := 4) (b' := 49) (r' := 37) h1 (by decide +kernel) (by decide +kernel) (by decide +kernel) (by decide +kernel) (by decide +kernel) (by decide +kernel) (by decide +kernel) (by decide +kernel) rfl rfl (fun M2 h2 => ?_)
  refine ⟨(h2.ob 46 8 (by decide +kernel) (by decide +kernel) (by decide +kernel)), y_sr (r' := 38) h2 (by decide +kernel) (by decide +kernel) rfl (fun M3 h3 => ?_)⟩
  exact hQ _ h3
theorem s_Shape_init_49 {L : Nat} {xs : Nat → Int32} {M0 : eM} {Q : eM → Prop} (h0 : y_I L xs 50 39 M0) (hQ : ∀ M, y_I L xs 52 41 M → Q M) : w_Shape_init 2 5 49 M0 Q := by
  unfold w_Shape_init
  refine ⟨(by decide +kernel), ?_⟩
  refine ⟨(by decide +kernel), (by decide +kernel), y_new (b' := 51) h0 (by decide +kernel) rfl (fun M1 h1 => ?_)⟩
  rw [h0.1]
  refine ⟨(by decide +kernel), 1, 4, (by decide +kernel), (by decide +kernel), ?_⟩
  refine y_row (n := 4) (b' := 52) (r' := 40) h1 (by decide +kernel) (by decide +kernel) (by decide +kernel) (by decide +kernel) (by decide +kernel) (by decide +kernel) (by decide +kernel) (by decide +kernel) rfl rfl (fun M2 h2 => ?_)
  refine ⟨(h2.ob 49 8 (by decide +kernel) (by decide +kernel) (by decide +kernel)), y_sr (r' := 41) h2 (by decide +kernel) (by decide +kernel) rfl (fun M3 h3 => ?_)⟩
  exact hQ _ h3
theorem s_Shape_init_52 {L : Nat} {xs : Nat → Int32} {M0 : eM} {Q : eM → Prop} (h0 : y_I L xs 53 42 M0) (hQ : ∀ M, y_I L xs 55 44 M → Q M) : w_Shape_init 2 5 52 M0 Q := by
  unfold w_Shape_init
  refine ⟨(by decide +kernel), ?_⟩
  refine ⟨(by decide +kernel), (by decide +kernel), y_new (b' := 54) h0 (by decide +kernel) rfl (fun M1 h1 => ?_)⟩
  rw [h0.1]
  refine ⟨(by decide +kernel), 1, 4, (by decide +kernel), (by decide +kernel), ?_⟩
  refine y_row (n := 4) (b' := 55) (r' := 43) h1 (by decide +kernel) (by decide +kernel) (by decide +kernel) (by decide +kernel) (by decide +kernel) (by decide +kernel) (by decide +kernel) (by decide +kernel) rfl rfl (fun M2 h2 => ?_)
  refine ⟨(h2.ob 52 8 (by decide +kernel) (by decide +kernel) (by decide +kernel)), y_sr (r' := 44) h2 (by decide +kernel) (by decide +kernel) rfl (fun M3 h3 => ?_)⟩
  exact hQ _ h3
theorem s_Shape_init_55 {L : Nat} {xs : Nat → Int32} {M0 : eM} {Q : eM → Prop} (h0 : y_I L xs 56 45 M0) (hQ : ∀ M, y_I L xs 58 47 M → Q M) : w_Shape_init 2 5 55 M0 Q := by
  unfold w_Shape_init
  refine ⟨(by decide +kernel), ?_⟩
  refine ⟨(by decide +kernel), (by decide +kernel), y_new (b' := 57) h0 (by decide +kernel) rfl (fun M1 h1 => ?_)⟩
  rw [h0.1]
  refine ⟨(by decide +kernel), 1, 4, (by decide +kernel), (by decide +kernel), ?_⟩
  refine y_row (n := 4) (b' := 58) (r' := 46) h1 (by decide +kernel) (by decide +kernel) (by decide +kernel) (by decide +kernel) (by decide +kernel) (by decide +kernel) (by decide +kernel) (by decide +kernel) rfl rfl (fun M2 h2 => ?_)
  refine ⟨(h2.ob 55 8 (by decide +kernel) (by decide +kernel) (by decide +kernel)), y_sr (r' := 47) h2 (by decide +kernel) (by decide +kernel) rfl (fun M3 h3 => ?_)⟩
  exact hQ _ h3
theorem s_Shape_init_58 {L : Nat} {xs : Nat → Int32} {M0 : eM} {Q : eM → Prop} (h0 : y_I L xs 59 48 M0) (hQ : ∀ M, y_I L xs 61 50 M → Q M) : w_Shape_init 2 5 58 M0 Q := by
  unfold w_Shape_init
  refine ⟨(by decide +kernel), ?_⟩
  refine ⟨(by decide +kernel), (by decide +kernel), y_new (b' := 60) h0 (by decide +kernel) rfl (fun M1 h1 => ?_)⟩
  rw [h0.1]
  refine ⟨(by decide +kernel), 1, 4, (by decide +kernel), (by decide +kernel), ?_⟩
  refine y_row (n := 4) (b' := 61) (r' := 49) h1 (by decide +kernel) (by decide +kernel) (by decide +kernel) (by decide +kernel) (by decide +kernel) (by decide +kernel) (by decide +kernel) (by decide +kernel) rfl rfl (fun M2 h2 => ?_)
  refine ⟨(h2.ob 58 8 (by decide +kernel) (by decide +kernel) (by decide +kernel)), y_sr (r' := 50) h2 (by decide +kernel) (by decide +kernel) rfl (fun M3 h3 => ?_)⟩
  exact hQ _ h3
theorem s_Shape_init_61 {L : Nat} {xs : Nat → Int32} {M0 : eM} {Q : eM → Prop} (h0 : y_I L xs 62 51 M0) (hQ : ∀ M, y_I L xs 64 53 M → Q M) : w_Shape_init 2 5 61 M0 Q := by
  unfold w_Shape_init
  refine ⟨(by decide +kernel), ?_⟩
  refine ⟨(by decide +kernel), (by decide +kernel), y_new (b' := 63) h0 (by decide +kernel) rfl (fun M1 h1 => ?_)⟩
  rw [h0.1]
  refine ⟨(by decide +kernel), 1, 4, (by decide +kernel), (by decide +kernel), ?_⟩
  refine y_row (n := 4) (b' := 64) (r' := 52) h1 (by decide +kernel) (by decide +kernel) (by decide +kernel) (by decide +kernel) (by decide +kernel) (by decide +kernel) (by decide +kernel) (by decide +kernel) rfl rfl (fun M2 h2 => ?_)
  refine ⟨(h2.ob 61 8 (by decide +kernel) (by decide +kernel) (by decide +kernel)), y_sr (r' := 53) h2 (by decide +kernel) (by decide +kernel) rfl (fun M3 h3 => ?_)⟩
  exact hQ _ h3
theorem s_Shape_init_64 {L : Nat} {xs : Nat → Int32} {M0 : eM} {Q : eM → Prop} (h0 : y_I L xs 65 54 M0) (hQ : ∀ M, y_I L xs 67 56 M → Q M) : w_Shape_init 2 5 64 M0 Q := by
  unfold w_Shape_init
  refine ⟨(by decide +kernel), ?_⟩
  refine ⟨(by decide +kernel), (by decide +kernel), y_new (b' := 66) h0 (by decide +kernel) rfl (fun M1 h1 => ?_)⟩
  rw [h0.1]
  refine ⟨(by decide +kernel), 1, 4, (by decide +kernel), (by decide +kernel), ?_⟩
  refine y_row (n := 4) (b' := 67) (r' := 55) h1 (by decide +kernel) (by decide +kernel) (by decide +kernel) (by decide +kernel) (by decide +kernel) (by decide +kernel) (by decide +kernel) (by decide +kernel) rfl rfl (fun M2 h2 => ?_)
  refine ⟨(h2.ob 64 8 (by decide +kernel) (by decide +kernel) (by decide +kernel)), y_sr (r' := 56) h2 (by decide +kernel) (by decide +kernel) rfl (fun M3 h3 => ?_)⟩
  exact hQ _ h3
theorem s_Shape_init_67 {L : Nat} {xs : Nat → Int32} {M0 : eM} {Q : eM → Prop} (h0 : y_I L xs 68 57 M0) (hQ : ∀ M, y_I L xs 70 59 M → Q M) : w_Shape_init 2 5 67 M0 Q := by
  unfold w_Shape_init
  refine ⟨(by decide +kernel), ?_⟩
  refine ⟨(by decide +kernel), (by decide +kernel), y_new (b' := 69) h0 (by decide +kernel) rfl (fun M1 h1 => ?_)⟩
  rw [h0.1]
  refine ⟨(by decide +kernel), 1, 4, (by decide +kernel), (by decide +kernel), ?_⟩
  refine y_row (n := 4) (b' := 70) (r' := 58) h1 (by decide +kernel) (by decide +kernel) (by decide +kernel) (by decide +kernel) (by decide +kernel) (by decide +kernel) (by decide +kernel) (by decide +kernel) rfl rfl (fun M2 h2 => ?_)
  refine ⟨(h2.ob 67 8 (by decide +kernel) (by decide +kernel) (by decide +kernel)), y_sr (r' := 59) h2 (by decide +kernel) (by decide +kernel) rfl (fun M3 h3 => ?_)⟩
  exact hQ _ h3
theorem s_Shape_init_70 {L : Nat} {xs : Nat → Int32} {M0 : eM} {Q : eM → Prop} (h0 : y_I L xs 71 60 M0) (hQ : ∀ M, y_I L xs 73 62 M → Q M) : w_Shape_init 2 5 70 M0 Q := by
  unfold w_Shape_init
  refine ⟨(by decide +kernel), ?_⟩
  refine ⟨(by decide +kernel), (by decide +kernel), y_new (b' := 72) h0 (by decide +kernel) rfl (fun M1 h1 => ?_)⟩
  rw [h0.1]
  refine ⟨(by decide +kernel), 1, 4, (by decide +kernel), (by decide +kernel), ?_⟩
  refine y_row (n := 4) (b' := 73) (r' := 61) h1 (by decide +kernel) (by decide +kernel) (by decide +kernel) (by decide +kernel) (by decide +kernel) (by decide +kernel) (by decide +kernel) (by decide +kernel) rfl rfl (fun M2 h2 => ?_)
  refine ⟨(h2.ob 70 8 (by decide +kernel) (by decide +kernel) (by decide +kernel)), y_sr (r' := 62) h2 (by decide +kernel) (by decide +kernel) rfl (fun M3 h3 => ?_)⟩
  exact hQ _ h3
theorem s_Shape_init_73 {L : Nat} {xs : Nat → Int32} {M0 : eM} {Q : eM → Prop} (h0 : y_I L xs 74 63 M0) (hQ : ∀ M, y_I L xs 76 65 M → Q M) : w_Shape_init 2 5 73 M0 Q := by
  unfold w_Shape_init
  refine ⟨(by decide +kernel), ?_⟩
  refine ⟨(by decide +kernel), (by decide +kernel), y_new (b' := 75) h0 (by decide +kernel) rfl (fun M1 h1 => ?_)⟩
  rw [h0.1]
  refine ⟨(by decide +kernel), 1, 4, (by decide +kernel), (by decide +kernel), ?_⟩
  refine y_row (n := 4) (b' := 76) (r' := 64) h1 (by decide +kernel) (by decide +kernel) (by decide +kernel) (by decide +kernel) (by decide +kernel) (by decide +kernel) (by decide +kernel) (by decide +kernel) rfl rfl (fun M2 h2 => ?_)
  refine ⟨(h2.ob 73 8 (by decide +kernel) (by decide +kernel) (by decide +kernel)), y_sr (r' := 65) h2 (by decide +kernel) (by decide +kernel) rfl (fun M3 h3 => ?_)⟩
  exact hQ _ h3
theorem s_Shape_init_76 {L : Nat} {xs : Nat → Int32} {M0 : eM} {Q : eM → Prop} (h0 : y_I L xs 77 66 M0) (hQ : ∀ M, y_I L xs 79 68 M → Q M) : w_Shape_init 2 5 76 M0 Q := by
  unfold w_Shape_init
  refine ⟨(by decide +kernel), ?_⟩
  refine ⟨(by decide +kernel), (by decide +kernel), y_new (b' := 78) h0 (by decide +kernel) rfl (fun M1 h1 => ?_)⟩
  rw [h0.1]
  refine ⟨(by decide +kernel), 1, 4, (by decide +kernel), (by decide +kernel), ?_⟩
  refine y_row (n := 4) (b' := 79) (r' := 67) h1 (by decide +kernel) (by decide +kernel) (by decide +kernel) (by decide +kernel) (by decide +kernel) (by decide +kernel) (by decide +kernel) (by decide +kernel) rfl rfl (fun M2 h2 => ?_)
  refine ⟨(h2.ob 76 8 (by decide +kernel) (by decide +kernel) (by decide +kernel)), y_sr (r' := 68) h2 (by decide +kernel) (by decide +kernel) rfl (fun M3 h3 => ?_)⟩
  exact hQ _ h3
theorem s_Shape_init_79 {L : Nat} {xs : Nat → Int32} {M0 : eM} {Q : eM → Prop} (h0 : y_I L xs 80 69 M0) (hQ : ∀ M, y_I L xs 82 71 M → Q M) : w_Shape_init 2 5 79 M0 Q := by
  unfold w_Shape_init
  refine ⟨(by decide +kernel), ?_⟩
  refine ⟨(by decide +kernel), (by decide +kernel), y_new (b' := 81) h0 (by decide +kernel) rfl (fun M1 h1 => ?_)⟩
  rw [h0.1]
  refine ⟨(by decide +kernel), 1, 4, (by decide +kernel), (by decide +kernel), ?_⟩
  refine y_row (n := 4) (b' := 82) (r' := 70) h1 (by decide +kernel) (by decide +kernel) (by decide +kernel) (by decide +kernel) (by decide +kernel) (by decide +kernel) (by decide +kernel) (by decide +kernel) rfl rfl (fun M2 h2 => ?_)
  refine ⟨(h2.ob 79 8 (by decide +kernel) (by decide +kernel) (by decide +kernel)), y_sr (r' := 71) h2 (by decide +kernel) (by decide +kernel) rfl (fun M3 h3 => ?_)⟩
  exact hQ _ h3
theorem s_Shape_init_82 {L : Nat} {xs : Nat → Int32} {M0 : eM} {Q : eM → Prop} (h0 : y_I L xs 83 72 M0) (hQ : ∀ M, y_I L xs 85 74 M → Q M) : w_Shape_init 2 5 82 M0 Q := by
  unfold w_Shape_init
  refine ⟨(by decide +kernel), ?_⟩
  refine ⟨(by decide +kernel), (by decide +kernel), y_new (b' := 84) h0 (by decide +kernel) rfl (fun M1 h1 => ?_)⟩
  rw [h0.1]
  refine ⟨(by decide +kernel), 1, 4, (by decide +kernel), (by decide +kernel), ?_⟩
  refine y_row (n := 4) (b' := 85) (r' := 73) h1 (by decide +kernel) (by decide +kernel) (by decide +kernel) (by decide +kernel) (by decide +kernel) (by decide +kernel) (by decide +kernel) (by decide +kernel) rfl rfl (fun M2 h2 => ?_)
  refine ⟨(h2.ob 82 8 (by decide +kernel) (by decide +kernel) (by decide +kernel)), y_sr (r' := 74) h2 (by decide +kernel) (by decide +kernel) rfl (fun M3 h3 => ?_)⟩
  exact hQ _ h3
theorem s_Shape_init_85 {L : Nat} {xs : Nat → Int32} {M0 : eM} {Q : eM → Prop} (h0 : y_I L xs 86 75 M0) (hQ : ∀ M, y_I L xs 88 77 M → Q M) : w_Shape_init 2 5 85 M0 Q := by
  unfold w_Shape_init
  refine ⟨(by decide +kernel), ?_⟩
  refine ⟨(by decide +kernel), (by decide +kernel), y_new (b' := 87) h0 (by decide +kernel) rfl (fun M1 h1 => ?_)⟩
  rw [h0.1]
  refine ⟨(by decide +kernel), 1, 4, (by decide +kernel), (by decide +kernel), ?_⟩
  refine y_row (n := 4) (b' := 88) (r' := 76) h1 (by decide +kernel) (by decide +kernel) (by decide +kernel) (by decide +kernel) (by decide +kernel) (by decide +kernel) (by decide +kernel) (by decide +kernel) rfl rfl (fun M2 h2 => ?_)
  refine ⟨(h2.ob 85 8 (by decide +kernel) (by decide +kernel) (by decide +kernel)), y_sr (r' := 77) h2 (by decide +kernel) (by decide +kernel) rfl (fun M3 h3 => ?_)⟩
  exact hQ _ h3
theorem s_Shape_init_88 {L : Nat} {xs : Nat → Int32} {M0 : eM} {Q : eM → Prop} (h0 : y_I L xs 89 78 M0) (hQ : ∀ M, y_I L xs 91 80 M → Q M) : w_Shape_init 2 5 88 M0 Q := by
  unfold w_Shape_init
  refine ⟨(by decide +kernel), ?_⟩
  refine ⟨(by decide +kernel), (by decide +kernel), y_new (b' := 90) h0 (by decide +kernel) rfl (fun M1 h1 => ?_)⟩
  rw [h0.1]
  refine ⟨(by decide +kernel), 1, 4, (by decide +kernel), (by decide +kernel), ?_⟩
  refine y_row (n := 4) (b' := 91) (r' := 79) h1 (by decide +kernel) (by decide +kernel) (by decide +kernel) (by decide +kernel) (by decide +kernel) (by decide +kernel) (by decide +kernel) (by decide +kernel) rfl rfl (fun M2 h2 => ?_)
  refine ⟨(h2.ob 88 8 (by decide +kernel) (by decide +kernel) (by decide +kernel)), y_sr (r' := 80) h2 (by decide +kernel) (by decide +kernel) rfl (fun M3 h3 => ?_)⟩
  exact hQ _ h3
theorem s_Shape_init_91 {L : Nat} {xs : Nat → Int32} {M0 : eM} {Q : eM → Prop} (h0 : y_I L xs 92 81 M0) (hQ : ∀ M, y_I L xs 94 83 M → Q M) : w_Shape_init 2 5 91 M0 Q := by
  unfold w_Shape_init
  refine ⟨(by decide +kernel), ?_⟩
  refine ⟨(by decide +kernel), (by decide +kernel), y_new (b' := 93) h0 (by decide +kernel) rfl (fun M1 h1 => ?_)⟩
  rw [h0.1]
  refine ⟨(by decide +kernel), 1, 4, (by decide +kernel), (by decide +kernel), ?_⟩
  refine y_row (n := 4) (b' := 94) (r' := 82) h1 (by decide +kernel) (by decide +kernel) (by decide +kernel) (by decide +kernel) (by decide +kernel) (by decide +kernel) (by decide +kernel) (by decide +kernel) rfl rfl (fun M2 h2 => ?_)
  refine ⟨(h2.ob 91 8 (by decide +kernel) (by decide +kernel) (by decide +kernel)), y_sr (r' := 83) h2 (by decide +kernel) (by decide +kernel) rfl (fun M3 h3 => ?_)⟩
  exact hQ _ h3
theorem s_Program_init_9 {L : Nat} {xs : Nat → Int32} {M0 : eM} {Q : eM → Prop} (h0 : y_I L xs 10 0 M0) (hQ : ∀ M, y_I L xs 104 94 M → Q M) : w_Program_init 94 9473 9 M0 Q := by
  unfold w_Program_init
  refine ⟨(by decide +kernel), ?_⟩
  refine ⟨(by decide +kernel), (by decide +kernel), y_new (b' := 11) h0 (by decide +kernel) rfl (fun M1 h1 => ?_)⟩
  rw [h0.1]
  refine ⟨(by decide +kernel), 1, 1500, (by decide +kernel), (by decide +kernel), ?_⟩
  refine y_row (n := 1500) (b' := 12) (r' := 1) h1 (by decide +kernel) (by decide +kernel) (by decide +kernel) (by decide +kernel) (by decide +kernel) (by decide +kernel) (by decide +kernel) (by decide +kernel) rfl rfl (fun M2 h2 => ?_)
  refine ⟨(h2.ob 9 5 (by decide +kernel) (by decide +kernel) (by decide +kernel)), y_sr (r' := 2) h2 (by decide +kernel) (by decide +kernel) rfl (fun M3 h3 => ?_)⟩
  refine ⟨(by decide +kernel), (by decide +kernel), y_new (b' := 13) h3 (by decide +kernel) rfl (fun M4 h4 => ?_)⟩
  rw [h3.1]
  refine ⟨(by decide +kernel), 1, 8, (by decide +kernel), (by decide +kernel), ?_⟩
  refine y_row (n := 8) (b' := 14) (r' := 3) h4 (by decide +kernel) (by decide +kernel) (by decide +kernel) (by decide +kernel) (by decide +kernel) (by decide +kernel) (by decide +kernel) (by decide +kernel) rfl rfl (fun M5 h5 => ?_)
  refine ⟨(h5.ob 9 5 (by decide +kernel) (by decide +kernel) (by decide +kernel)), y_sr (r' := 4) h5 (by decide +kernel) (by decide +kernel) rfl (fun M6 h6 => ?_)⟩
  refine ⟨(by decide +kernel), (by decide +kernel), y_new (b' := 15) h6 (by decide +kernel) rfl (fun M7 h7 => ?_)⟩
  rw [h6.1]
  refine ⟨(by decide +kernel), 1, 8, (by decide +kernel), (by decide +kernel), ?_⟩
  refine y_row (n := 8) (b' := 16) (r' := 5) h7 (by decide +kernel) (by decide +kernel) (by decide +kernel) (by decide +kernel) (by decide +kernel) (by decide +kernel) (by decide +kernel) (by decide +kernel) rfl rfl (fun M8 h8 => ?_)
  refine ⟨(h8.ob 9 5 (by decide +kernel) (by decide +kernel) (by decide +kernel)), y_sr (r' := 6) h8 (by decide +kernel) (by decide +kernel) rfl (fun M9 h9 => ?_)⟩
  refine ⟨(by decide +kernel), (by decide +kernel), y_new (b' := 17) h9 (by decide +kernel) rfl (fun M10 h10 => ?_)⟩
  rw [h9.1]
  refine ⟨(by decide +kernel), 1, 8, (by decide +kernel), (by decide +kernel), ?_⟩
  refine y_row (n := 8) (b' := 18) (r' := 7) h10 (by decide +kernel) (by decide +kernel) (by decide +kernel) (by decide +kernel) (by decide +kernel) (by decide +kernel) (by decide +kernel) (by decide +kernel) rfl rfl (fun M11 h11 => ?_)
  refine ⟨(h11.ob 9 5 (by decide +kernel) (by decide +kernel) (by decide +kernel)), y_sr (r' := 8) h11 (by decide +kernel) (by decide +kernel) rfl (fun M12 h12 => ?_)⟩
  refine ⟨(by decide +kernel), (by decide +kernel), y_new (b' := 19) h12 (by decide +kernel) rfl (fun M13 h13 => ?_)⟩
  rw [h12.1]
  refine ⟨(by decide +kernel), 1, 64, (by decide +kernel), (by decide +kernel), ?_⟩
  refine y_row (n := 64) (b' := 20) (r' := 9) h13 (by decide +kernel) (by decide +kernel) (by decide +kernel) (by decide +kernel) (by decide +kernel) (by decide +kernel) (by decide +kernel) (by decide +kernel) rfl rfl (fun M14 h14 => ?_)
  refine ⟨(h14.ob 9 5 (by decide +kernel) (by decide +kernel) (by decide +kernel)), y_sr (r' := 10) h14 (by decide +kernel) (by decide +kernel) rfl (fun M15 h15 => ?_)⟩
  refine ⟨(by decide +kernel), (by decide +kernel), (by decide +kernel), (by decide +kernel), y_new (b' := 21) h15 (by decide +kernel) rfl (fun M16 h16 => ?_)⟩
  rw [h15.1]
  refine ⟨(h16.ob 9 5 (by decide +kernel) (by decide +kernel) (by decide +kernel)), y_sr (r' := 11) h16 (by decide +kernel) (by decide +kernel) rfl (fun M17 h17 => ?_)⟩
  refine ⟨9, ?_⟩
  rw [u81]
  refine ⟨fun c => absurd c (by decide +kernel), fun _ => ?_⟩
  refine ⟨(h17.ob 9 5 (by decide +kernel) (by decide +kernel) (by decide +kernel)), ?_⟩
  rw [h17.gr 10 9 8 20 (by decide +kernel) (by decide +kernel)]
  refine ⟨(by decide +kernel), (by decide +kernel), y_new (b' := 22) h17 (by decide +kernel) rfl (fun M18 h18 => ?_)⟩
  rw [h17.1]
  refine ⟨(by decide +kernel), 2, 5, (by decide +kernel), (by decide +kernel), ?_⟩
  refine s_Shape_init_21 h18 (fun M19 h19 => ?_)
  refine ⟨Or.inr ⟨h19.ar 20 24 8 _ (by decide +kernel) (by decide +kernel) (by decide +kernel) (by unfold vp_in; decide +kernel), (h19.ob 21 8 (by decide +kernel) (by decide +kernel) (by decide +kernel))⟩, y_sr (r' := 14) h19 (by decide +kernel) (by decide +kernel) rfl (fun M20 h20 => ?_)⟩
  try dsimp only
  rw [u81]
  refine ⟨fun c => absurd c (by decide +kernel), fun _ => ?_⟩
  refine ⟨(h20.ob 9 5 (by decide +kernel) (by decide +kernel) (by decide +kernel)), ?_⟩
  rw [h20.gr 10 9 8 20 (by decide +kernel) (by decide +kernel)]
  refine ⟨(by decide +kernel), (by decide +kernel), y_new (b' := 25) h20 (by decide +kernel) rfl (fun M21 h21 => ?_)⟩
  rw [h20.1]
  refine ⟨(by decide +kernel), 2, 5, (by decide +kernel), (by decide +kernel), ?_⟩
  refine s_Shape_init_24 h21 (fun M22 h22 => ?_)
  refine ⟨Or.inr ⟨h22.ar 20 24 8 _ (by decide +kernel) (by decide +kernel) (by decide +kernel) (by unfold vp_in; decide +kernel), (h22.ob 24 8 (by decide +kernel) (by decide +kernel) (by decide +kernel))⟩, y_sr (r' := 17) h22 (by decide +kernel) (by decide +kernel) rfl (fun M23 h23 => ?_)⟩
  try dsimp only
  rw [u81]
  refine ⟨fun c => absurd c (by decide +kernel), fun _ => ?_⟩
  refine ⟨(h23.ob 9 5 (by decide +kernel) (by decide +kernel) (by decide +kernel)), ?_⟩
  rw [h23.gr 10 9 8 20 (by decide +kernel) (by decide +kernel)]
  refine ⟨(by decide +kernel), (by decide +kernel), y_new (b' := 28) h23 (by decide +kernel) rfl (fun M24 h24 => ?_)⟩
  rw [h23.1]
  refine ⟨(by decide +kernel), 2, 5, (by decide +kernel), (by decide +kernel), ?_⟩
  refine s_Shape_init_27 h24 (fun M25 h25 => ?_)
  refine ⟨Or.inr ⟨h25.ar 20 24 8 _ (by decide +kernel) (by decide +kernel) (by decide +kernel) (by unfold vp_in; decide +kernel), (h25.ob 27 8 (by decide +kernel) (by decide +kernel) (by decide +kernel))⟩, y_sr (r' := 20) h25 (by decide +kernel) (by decide +kernel) rfl (fun M26 h26 => ?_)⟩
  try dsimp only
  rw [u81]
  refine ⟨fun c => absurd c (by decide +kernel), fun _ => ?_⟩
  refine ⟨(h26.ob 9 5 (by decide +kernel) (by decide +kernel) (by decide +kernel)), ?_⟩
  rw [h26.gr 10 9 8 20 (by decide +kernel) (by decide +kernel)]
  refine ⟨(by decide +kernel), (by decide +kernel), y_new (b' := 31) h26 (by decide +kernel) rfl (fun M27 h27 => ?_)⟩
  rw [h26.1]
  refine ⟨(by decide +kernel), 2, 5, (by decide +kernel), (by decide +kernel), ?_⟩
  refine s_Shape_init_30 h27 (fun M28 h28 => ?_)
  refine ⟨Or.inr ⟨h28.ar 20 24 8 _ (by decide +kernel) (by decide +kernel) (by decide +kernel) (by unfold vp_in; decide +kernel), (h28.ob 30 8 (by decide +kernel) (by decide +kernel) (by decide +kernel))⟩, y_sr (r' := 23) h28 (by decide +kernel) (by decide +kernel) rfl (fun M29 h29 => ?_)⟩
  try dsimp only
  rw [u81]
  refine ⟨fun c => absurd c (by decide +kernel), fun _ => ?_⟩
  refine ⟨(h29.ob 9 5 (by decide +kernel) (by decide +kernel) (by decide +kernel)), ?_⟩
  rw [h29.gr 10 9 8 20 (by decide +kernel) (by decide +kernel)]
  refine ⟨(by decide +kernel), (by decide +kernel), y_new (b' := 34) h29 (by decide +kernel) rfl (fun M30 h30 => ?_)⟩
  rw [h29.1]
  refine ⟨(by decide +kernel), 2, 5, (by decide +kernel), (by decide +kernel), ?_⟩
  refine s_Shape_init_33 h30 (fun M31 h31 => ?_)
  refine ⟨Or.inr ⟨h31.ar 20 24 8 _ (by decide +kernel) (by decide +kernel) (by decide +kernel) (by unfold vp_in; decide +kernel), (h31.ob 33 8 (by decide +kernel) (by decide +kernel) (by decide +kernel))⟩, y_sr (r' := 26) h31 (by decide +kernel) (by decide +kernel) rfl (fun M32 h32 => ?_)⟩
  try dsimp only
  rw [u81]
  refine ⟨fun c => absurd c (by decide +kernel), fun _ => ?_⟩
  refine ⟨(h32.ob 9 5 (by decide +kernel) (by decide +kernel) (by decide +kernel)), ?_⟩
  rw [h32.gr 10 9 8 20 (by decide +kernel) (by decide +kernel)]
  refine ⟨(by decide +kernel), (by decide +kernel), y_new (b' := 37) h32 (by decide +kernel) rfl (fun M33 h33 => ?_)⟩
  rw [h32.1]
  refine ⟨(by decide +kernel), 2, 5, (by decide +kernel), (by decide +kernel), ?_⟩
  refine s_Shape_init_36 h33 (fun M34 h34 => ?_)
  refine ⟨Or.inr ⟨h34.ar 20 24 8 _ (by decide +kernel) (by decide +kernel) (by decide +kernel) (by unfold vp_in; decide +kernel), (h34.ob 36 8 (by decide +kernel) (by decide +kernel) (by decide +kernel))⟩, y_sr (r' := 29) h34 (by decide +kernel) (by decide +kernel) rfl (fun M35 h35 => ?_)⟩
  try dsimp only
  rw [u81]
  refine ⟨fun c => absurd c (by decide +kernel), fun _ => ?_⟩
  refine ⟨(h35.ob 9 5 (by decide +kernel) (by decide +kernel) (by decide +kernel)), ?_⟩
  rw [h35.gr 10 9 8 20 (by decide +kernel) (by decide +kernel)]
  refine ⟨(by decide +kernel), (by decide +kernel), y_new (b' := 40) h35 (by decide +kernel) rfl (fun M36 h36 => ?_)⟩
  rw [h35.1]
  refine ⟨(by decide +kernel), 2, 5, (by decide +kernel), (by decide +kernel), ?_⟩
  refine s_Shape_init_39 h36 (fun M37 h37 => ?_)
  refine ⟨Or.inr ⟨h37.ar 20 24 8 _ (by decide +kernel) (by decide +kernel) (by decide +kernel) (by unfold vp_in; decide +kernel), (h37.ob 39 8 (by decide +kernel) (by decide +kernel) (by decide +kernel))⟩, y_sr (r' := 32) h37 (by decide +kernel) (by decide +kernel) rfl (fun M38 h38 => ?_)⟩
  try dsimp only
  rw [u81]
  refine ⟨fun c => absurd c (by decide +kernel), fun _ => ?_⟩
  refine ⟨(h38.ob 9 5 (by decide +kernel) (by decide +kernel) (by decide +kernel)), ?_⟩
  rw [h38.gr 10 9 8 20 (by decide +kernel) (by decide +kernel)]
  refine ⟨(by decide +kernel), (by decide +kernel), y_new (b' := 43) h38 (by decide +kernel) rfl (fun M39 h39 => ?_)⟩
  rw [h38.1]
  refine ⟨(by decide +kernel), 2, 5, (by decide +kernel), (by decide +kernel), ?_⟩
  refine s_Shape_init_42 h39 (fun M40 h40 => ?_)
  refine ⟨Or.inr ⟨h40.ar 20 24 8 _ (by decide +kernel) (by decide +kernel) (by decide +kernel) (by unfold vp_in; decide +kernel), (h40.ob 42 8 (by decide +kernel) (by decide +kernel) (by decide +kernel))⟩, y_sr (r' := 35) h40 (by decide +kernel) (by decide +kernel) rfl (fun M41 h41 => ?_)⟩
  try dsimp only
  rw [u81]
  refine ⟨fun _ => ?_, fun c => absurd (by decide +kernel) c⟩
  refine ⟨(by decide +kernel), (by decide +kernel), (by decide +kernel), (by decide +kernel), y_new (b' := 46) h41 (by decide +kernel) rfl (fun M42 h42 => ?_)⟩
  rw [h41.1]
  refine ⟨(h42.ob 9 5 (by decide +kernel) (by decide +kernel) (by decide +kernel)), y_sr (r' := 36) h42 (by decide +kernel) (by decide +kernel) rfl (fun M43 h43 => ?_)⟩
  refine ⟨17, ?_⟩
  rw [u117]
  refine ⟨fun c => absurd c (by decide +kernel), fun _ => ?_⟩
  refine ⟨(h43.ob 9 5 (by decide +kernel) (by decide +kernel) (by decide +kernel)), ?_⟩
  rw [h43.gr 35 9 10 45 (by decide +kernel) (by decide +kernel)]
  refine ⟨(by decide +kernel), (by decide +kernel), y_new (b' := 47) h43 (by decide +kernel) rfl (fun M44 h44 => ?_)⟩
  rw [h43.1]
  refine ⟨(by decide +kernel), 2, 5, (by decide +kernel), (by decide +kernel), ?_⟩
  refine s_Shape_init_46 h44 (fun M45 h45 => ?_)
  refine ⟨Or.inr ⟨h45.ar 45 24 16 _ (by decide +kernel) (by decide +kernel) (by decide +kernel) (by unfold vp_in; decide +kernel), (h45.ob 46 8 (by decide +kernel) (by decide +kernel) (by decide +kernel))⟩, y_sr (r' := 39) h45 (by decide +kernel) (by decide +kernel) rfl (fun M46 h46 => ?_)⟩
  try dsimp only
  rw [u117]
  refine ⟨fun c => absurd c (by decide +kernel), fun _ => ?_⟩
  refine ⟨(h46.ob 9 5 (by decide +kernel) (by decide +kernel) (by decide +kernel)), ?_⟩
  rw [h46.gr 35 9 10 45 (by decide +kernel) (by decide +kernel)]
  refine ⟨(by decide +kernel), (by decide +kernel), y_new (b' := 50) h46 (by decide +kernel) rfl (fun M47 h47 => ?_)⟩
  rw [h46.1]
  refine ⟨(by decide +kernel), 2, 5, (by decide +kernel), (by decide +kernel), ?_⟩
  refine s_Shape_init_49 h47 (fun M48 h48 => ?_)
  refine ⟨Or.inr ⟨h48.ar 45 24 16 _ (by decide +kernel) (by decide +kernel) (by decide +kernel) (by unfold vp_in; decide +kernel), (h48.ob 49 8 (by decide +kernel) (by decide +kernel) (by decide +kernel))⟩, y_sr (r' := 42) h48 (by decide +kernel) (by decide +kernel) rfl (fun M49 h49 => ?_)⟩
  try dsimp only
  rw [u117]
  refine ⟨fun c => absurd c (by decide +kernel), fun _ => ?_⟩
  refine ⟨(h49.ob 9 5 (by decide +kernel) (by decide +kernel) (by decide +kernel)), ?_⟩
  rw [h49.gr 35 9 10 45 (by decide +kernel) (by decide +kernel)]
  refine ⟨(by decide +kernel), (by decide +kernel), y_new (b' := 53) h49 (by decide +kernel) rfl (fun M50 h50 => ?_)⟩
  rw [h49.1]
  refine ⟨(by decide +kernel), 2, 5, (by decide +kernel), (by decide +kernel), ?_⟩
  refine s_Shape_init_52 h50 (fun M51 h51 => ?_)
  refine ⟨Or.inr ⟨h51.ar 45 24 16 _ (by decide +kernel) (by decide +kernel) (by decide +kernel) (by unfold vp_in; decide +kernel), (h51.ob 52 8 (by decide +kernel) (by decide +kernel) (by decide +kernel))⟩, y_sr (r' := 45) h51 (by decide +kernel) (by decide +kernel) rfl (fun M52 h52 => ?_)⟩
  try dsimp only
  rw [u117]
  refine ⟨fun c => absurd c (by decide +kernel), fun _ => ?_⟩
  refine ⟨(h52.ob 9 5 (by decide +kernel) (by decide +kernel) (by decide +kernel)), ?_⟩
  rw [h52.gr 35 9 10 45 (by decide +kernel) (by decide +kernel)]
  refine ⟨(by decide +kernel), (by decide +kernel), y_new (b' := 56) h52 (by decide +kernel) rfl (fun M53 h53 => ?_)⟩
  rw [h52.1]
  refine ⟨(by decide +kernel), 2, 5, (by decide +kernel), (by decide +kernel), ?_⟩
  refine s_Shape_init_55 h53 (fun M54 h54 => ?_)
  refine ⟨Or.inr ⟨h54.ar 45 24 16 _ (by decide +kernel) (by decide +kernel) (by decide +kernel) (by unfold vp_in; decide +kernel), (h54.ob 55 8 (by decide +kernel) (by decide +kernel) (by decide +kernel))⟩, y_sr (r' := 48) h54 (by decide +kernel) (by decide +kernel) rfl (fun M55 h55 => ?_)⟩
  try dsimp only
  rw [u117]
  refine ⟨fun c => absurd c (by decide +kernel), fun _ => ?_⟩
  refine ⟨(h55.ob 9 5 (by decide +kernel) (by decide +kernel) (by decide +kernel)), ?_⟩
  rw [h55.gr 35 9 10 45 (by decide +kernel) (by decide +kernel)]
  refine ⟨(by decide +kernel), (by decide +kernel), y_new (b' := 59) h55 (by decide +kernel) rfl (fun M56 h56 => ?_)⟩
  rw [h55.1]
  refine ⟨(by decide +kernel), 2, 5, (by decide +kernel), (by decide +kernel), ?_⟩
  refine s_Shape_init_58 h56 (fun M57 h57 => ?_)
  refine ⟨Or.inr ⟨h57.ar 45 24 16 _ (by decide +kernel) (by decide +kernel) (by decide +kernel) (by unfold vp_in; decide +kernel), (h57.ob 58 8 (by decide +kernel) (by decide +kernel) (by decide +kernel))⟩, y_sr (r' := 51) h57 (by decide +kernel) (by decide +kernel) rfl (fun M58 h58 => ?_)⟩
  try dsimp only
  rw [u117]
  refine ⟨fun c => absurd c (by decide +kernel), fun _ => ?_⟩
  refine ⟨(h58.ob 9 5 (by decide +kernel) (by decide +kernel) (by decide +kernel)), ?_⟩
  rw [h58.gr 35 9 10 45 (by decide +kernel) (by decide +kernel)]
  refine ⟨(by decide +kernel), (by decide +kernel), y_new (b' := 62) h58 (by decide +kernel) rfl (fun M59 h59 => ?_)⟩
  rw [h58.1]
  refine ⟨(by decide +kernel), 2, 5, (by decide +kernel), (by decide +kernel), ?_⟩
  refine s_Shape_init_61 h59 (fun M60 h60 => ?_)
  refine ⟨Or.inr ⟨h60.ar 45 24 16 _ (by decide +kernel) (by decide +kernel) (by decide +kernel) (by unfold vp_in; decide +kernel), (h60.ob 61 8 (by decide +kernel) (by decide +kernel) (by decide +kernel))⟩, y_sr (r' := 54) h60 (by decide +kernel) (by decide +kernel) rfl (fun M61 h61 => ?_)⟩
  try dsimp only
  rw [u117]
  refine ⟨fun c => absurd c (by decide +kernel), fun _ => ?_⟩
  refine ⟨(h61.ob 9 5 (by decide +kernel) (by decide +kernel) (by decide +kernel)), ?_⟩
  rw [h61.gr 35 9 10 45 (by decide +kernel) (by decide +kernel)]
  refine ⟨(by decide +kernel), (by decide +kernel), y_new (b' := 65) h61 (by decide +kernel) rfl (fun M62 h62 => ?_)⟩
  rw [h61.1]
  refine ⟨(by decide +kernel), 2, 5, (by decide +kernel), (by decide +kernel), ?_⟩
  refine s_Shape_init_64 h62 (fun M63 h63 => ?_)
  refine ⟨Or.inr ⟨h63.ar 45 24 16 _ (by decide +kernel) (by decide +kernel) (by decide +kernel) (by unfold vp_in; decide +kernel), (h63.ob 64 8 (by decide +kernel) (by decide +kernel) (by decide +kernel))⟩, y_sr (r' := 57) h63 (by decide +kernel) (by decide +kernel) rfl (fun M64 h64 => ?_)⟩
  try dsimp only
  rw [u117]
  refine ⟨fun c => absurd c (by decide +kernel), fun _ => ?_⟩
  refine ⟨(h64.ob 9 5 (by decide +kernel) (by decide +kernel) (by decide +kernel)), ?_⟩
  rw [h64.gr 35 9 10 45 (by decide +kernel) (by decide +kernel)]
  refine ⟨(by decide +kernel), (by decide +kernel), y_new (b' := 68) h64 (by decide +kernel) rfl (fun M65 h65 => ?_)⟩
  rw [h64.1]
  refine ⟨(by decide +kernel), 2, 5, (by decide +kernel), (by decide +kernel), ?_⟩
  refine s_Shape_init_67 h65 (fun M66 h66 => ?_)
  refine ⟨Or.inr ⟨h66.ar 45 24 16 _ (by decide +kernel) (by decide +kernel) (by decide +kernel) (by unfold vp_in; decide +kernel), (h66.ob 67 8 (by decide +kernel) (by decide +kernel) (by decide +kernel))⟩, y_sr (r' := 60) h66 (by decide +kernel) (by decide +kernel) rfl (fun M67 h67 => ?_)⟩
  try dsimp only
  rw [u117]
  refine ⟨fun c => absurd c (by decide +kernel), fun _ => ?_⟩
  refine ⟨(h67.ob 9 5 (by decide +kernel) (by decide +kernel) (by decide +kernel)), ?_⟩
  rw [h67.gr 35 9 10 45 (by decide +kernel) (by decide +kernel)]
  refine ⟨(by decide +kernel), (by decide +kernel), y_new (b' := 71) h67 (by decide +kernel) rfl (fun M68 h68 => ?_)⟩
  rw [h67.1]
  refine ⟨(by decide +kernel), 2, 5, (by decide +kernel), (by decide +kernel), ?_⟩
  refine s_Shape_init_70 h68 (fun M69 h69 => ?_)
  refine ⟨Or.inr ⟨h69.ar 45 24 16 _ (by decide +kernel) (by decide +kernel) (by decide +kernel) (by unfold vp_in; decide +kernel), (h69.ob 70 8 (by decide +kernel) (by decide +kernel) (by decide +kernel))⟩, y_sr (r' := 63) h69 (by decide +kernel) (by decide +kernel) rfl (fun M70 h70 => ?_)⟩
  try dsimp only
  rw [u117]
  refine ⟨fun c => absurd c (by decide +kernel), fun _ => ?_⟩
  refine ⟨(h70.ob 9 5 (by decide +kernel) (by decide +kernel) (by decide +kernel)), ?_⟩
  rw [h70.gr 35 9 10 45 (by decide +kernel) (by decide +kernel)]
  refine ⟨(by decide +kernel), (by decide +kernel), y_new (b' := 74) h70 (by decide +kernel) rfl (fun M71 h71 => ?_)⟩
  rw [h70.1]
  refine ⟨(by decide +kernel), 2, 5, (by decide +kernel), (by decide +kernel), ?_⟩
  refine s_Shape_init_73 h71 (fun M72 h72 => ?_)
  refine ⟨Or.inr ⟨h72.ar 45 24 16 _ (by decide +kernel) (by decide +kernel) (by decide +kernel) (by unfold vp_in; decide +kernel), (h72.ob 73 8 (by decide +kernel) (by decide +kernel) (by decide +kernel))⟩, y_sr (r' := 66) h72 (by decide +kernel) (by decide +kernel) rfl (fun M73 h73 => ?_)⟩
  try dsimp only
  rw [u117]
  refine ⟨fun c => absurd c (by decide +kernel), fun _ => ?_⟩
  refine ⟨(h73.ob 9 5 (by decide +kernel) (by decide +kernel) (by decide +kernel)), ?_⟩
  rw [h73.gr 35 9 10 45 (by decide +kernel) (by decide +kernel)]
  refine ⟨(by decide +kernel), (by decide +kernel), y_new (b' := 77) h73 (by decide +kernel) rfl (fun M74 h74 => ?_)⟩
  rw [h73.1]
  refine ⟨(by decide +kernel), 2, 5, (by decide +kernel), (by decide +kernel), ?_⟩
  refine s_Shape_init_76 h74 (fun M75 h75 => ?_)
  refine ⟨Or.inr ⟨h75.ar 45 24 16 _ (by decide +kernel) (by decide +kernel) (by decide +kernel) (by unfold vp_in; decide +kernel), (h75.ob 76 8 (by decide +kernel) (by decide +kernel) (by decide +kernel))⟩, y_sr (r' := 69) h75 (by decide +kernel) (by decide +kernel) rfl (fun M76 h76 => ?_)⟩
  try dsimp only
  rw [u117]
  refine ⟨fun c => absurd c (by decide +kernel), fun _ => ?_⟩
  refine ⟨(h76.ob 9 5 (by decide +kernel) (by decide +kernel) (by decide +kernel)), ?_⟩
  rw [h76.gr 35 9 10 45 (by decide +kernel) (by decide +kernel)]
  refine ⟨(by decide +kernel), (by decide +kernel), y_new (b' := 80) h76 (by decide +kernel) rfl (fun M77 h77 => ?_)⟩
  rw [h76.1]
  refine ⟨(by decide +kernel), 2, 5, (by decide +kernel), (by decide +kernel), ?_⟩
  refine s_Shape_init_79 h77 (fun M78 h78 => ?_)
  refine ⟨Or.inr ⟨h78.ar 45 24 16 _ (by decide +kernel) (by decide +kernel) (by decide +kernel) (by unfold vp_in; decide +kernel), (h78.ob 79 8 (by decide +kernel) (by decide +kernel) (by decide +kernel))⟩, y_sr (r' := 72) h78 (by decide +kernel) (by decide +kernel) rfl (fun M79 h79 => ?_)⟩
  try dsimp only
  rw [u117]
  refine ⟨fun c => absurd c (by decide +kernel), fun _ => ?_⟩
  refine ⟨(h79.ob 9 5 (by decide +kernel) (by decide +kernel) (by decide +kernel)), ?_⟩
  rw [h79.gr 35 9 10 45 (by decide +kernel) (by decide +kernel)]
  refine ⟨(by decide +kernel), (by decide +kernel), y_new (b' := 83) h79 (by decide +kernel) rfl (fun M80 h80 => ?_)⟩
  rw [h79.1]
  refine ⟨(by decide +kernel), 2, 5, (by decide +kernel), (by decide +kernel), ?_⟩
  refine s_Shape_init_82 h80 (fun M81 h81 => ?_)
  refine ⟨Or.inr ⟨h81.ar 45 24 16 _ (by decide +kernel) (by decide +kernel) (by decide +kernel) (by unfold vp_in; decide +kernel), (h81.ob 82 8 (by decide +kernel) (by decide +kernel) (by decide +kernel))⟩, y_sr (r' := 75) h81 (by decide +kernel) (by decide +kernel) rfl (fun M82 h82 => ?_)⟩
  try dsimp only
  rw [u117]
  refine ⟨fun c => absurd c (by decide +kernel), fun _ => ?_⟩
  refine ⟨(h82.ob 9 5 (by decide +kernel) (by decide +kernel) (by decide +kernel)), ?_⟩
  rw [h82.gr 35 9 10 45 (by decide +kernel) (by decide +kernel)]
  refine ⟨(by decide +kernel), (by decide +kernel), y_new (b' := 86) h82 (by decide +kernel) rfl (fun M83 h83 => ?_)⟩
  rw [h82.1]
  refine ⟨(by decide +kernel), 2, 5, (by decide +kernel), (by decide +kernel), ?_⟩
  refine s_Shape_init_85 h83 (fun M84 h84 => ?_)
  refine ⟨Or.inr ⟨h84.ar 45 24 16 _ (by decide +kernel) (by decide +kernel) (by decide +kernel) (by unfold vp_in; decide +kernel), (h84.ob 85 8 (by decide +kernel) (by decide +kernel) (by decide +kernel))⟩, y_sr (r' := 78) h84 (by decide +kernel) (by decide +kernel) rfl (fun M85 h85 => ?_)⟩
  try dsimp only
  rw [u117]
  refine ⟨fun c => absurd c (by decide +kernel), fun _ => ?_⟩
  refine ⟨(h85.ob 9 5 (by decide +kernel) (by decide +kernel) (by decide +kernel)), ?_⟩
  rw [h85.gr 35 9 10 45 (by decide +kernel) (by decide +kernel)]
  refine ⟨(by decide +kernel), (by decide +kernel), y_new (b' := 89) h85 (by decide +kernel) rfl (fun M86 h86 => ?_)⟩
  rw [h85.1]
  refine ⟨(by decide +kernel), 2, 5, (by decide +kernel), (by decide +kernel), ?_⟩
  refine s_Shape_init_88 h86 (fun M87 h87 => ?_)
  refine ⟨Or.inr ⟨h87.ar 45 24 16 _ (by decide +kernel) (by decide +kernel) (by decide +kernel) (by unfold vp_in; decide +kernel), (h87.ob 88 8 (by decide +kernel) (by decide +kernel) (by decide +kernel))⟩, y_sr (r' := 81) h87 (by decide +kernel) (by decide +kernel) rfl (fun M88 h88 => ?_)⟩
  try dsimp only
  rw [u117]
  refine ⟨fun c => absurd c (by decide +kernel), fun _ => ?_⟩
  refine ⟨(h88.ob 9 5 (by decide +kernel) (by decide +kernel) (by decide +kernel)), ?_⟩
  rw [h88.gr 35 9 10 45 (by decide +kernel) (by decide +kernel)]
  refine ⟨(by decide +kernel), (by decide +kernel), y_new (b' := 92) h88 (by decide +kernel) rfl (fun M89 h89 => ?_)⟩
  rw [h88.1]
  refine ⟨(by decide +kernel), 2, 5, (by decide +kernel), (by decide +kernel), ?_⟩
  refine s_Shape_init_91 h89 (fun M90 h90 => ?_)
  refine ⟨Or.inr ⟨h90.ar 45 24 16 _ (by decide +kernel) (by decide +kernel) (by decide +kernel) (by unfold vp_in; decide +kernel), (h90.ob 91 8 (by decide +kernel) (by decide +kernel) (by decide +kernel))⟩, y_sr (r' := 84) h90 (by decide +kernel) (by decide +kernel) rfl (fun M91 h91 => ?_)⟩
  try dsimp only
  rw [u117]
  refine ⟨fun _ => ?_, fun c => absurd (by decide +kernel) c⟩
  refine ⟨(by decide +kernel), (by decide +kernel), y_new (b' := 95) h91 (by decide +kernel) rfl (fun M92 h92 => ?_)⟩
  rw [h91.1]
  refine ⟨(by decide +kernel), 1, 64, (by decide +kernel), (by decide +kernel), ?_⟩
  refine y_row (n := 64) (b' := 96) (r' := 85) h92 (by decide +kernel) (by decide +kernel) (by decide +kernel) (by decide +kernel) (by decide +kernel) (by decide +kernel) (by decide +kernel) (by decide +kernel) rfl rfl (fun M93 h93 => ?_)
  refine ⟨(h93.ob 9 5 (by decide +kernel) (by decide +kernel) (by decide +kernel)), y_sr (r' := 86) h93 (by decide +kernel) (by decide +kernel) rfl (fun M94 h94 => ?_)⟩
  refine ⟨(by decide +kernel), (by decide +kernel), y_new (b' := 97) h94 (by decide +kernel) rfl (fun M95 h95 => ?_)⟩
  rw [h94.1]
  refine ⟨(by decide +kernel), 1, 1500, (by decide +kernel), (by decide +kernel), ?_⟩
  refine y_row (n := 1500) (b' := 98) (r' := 87) h95 (by decide +kernel) (by decide +kernel) (by decide +kernel) (by decide +kernel) (by decide +kernel) (by decide +kernel) (by decide +kernel) (by decide +kernel) rfl rfl (fun M96 h96 => ?_)
  refine ⟨(h96.ob 9 5 (by decide +kernel) (by decide +kernel) (by decide +kernel)), y_sr (r' := 88) h96 (by decide +kernel) (by decide +kernel) rfl (fun M97 h97 => ?_)⟩
  refine ⟨(by decide +kernel), (by decide +kernel), y_new (b' := 99) h97 (by decide +kernel) rfl (fun M98 h98 => ?_)⟩
  rw [h97.1]
  refine ⟨(by decide +kernel), 1, 1500, (by decide +kernel), (by decide +kernel), ?_⟩
  refine y_row (n := 1500) (b' := 100) (r' := 89) h98 (by decide +kernel) (by decide +kernel) (by decide +kernel) (by decide +kernel) (by decide +kernel) (by decide +kernel) (by decide +kernel) (by decide +kernel) rfl rfl (fun M99 h99 => ?_)
  refine ⟨(h99.ob 9 5 (by decide +kernel) (by decide +kernel) (by decide +kernel)), y_sr (r' := 90) h99 (by decide +kernel) (by decide +kernel) rfl (fun M100 h100 => ?_)⟩
  refine ⟨(by decide +kernel), (by decide +kernel), y_new (b' := 101) h100 (by decide +kernel) rfl (fun M101 h101 => ?_)⟩
  rw [h100.1]
  refine ⟨(by decide +kernel), 1, 1500, (by decide +kernel), (by decide +kernel), ?_⟩
  refine y_row (n := 1500) (b' := 102) (r' := 91) h101 (by decide +kernel) (by decide +kernel) (by decide +kernel) (by decide +kernel) (by decide +kernel) (by decide +kernel) (by decide +kernel) (by decide +kernel) rfl rfl (fun M102 h102 => ?_)
  refine ⟨(h102.ob 9 5 (by decide +kernel) (by decide +kernel) (by decide +kernel)), y_sr (r' := 92) h102 (by decide +kernel) (by decide +kernel) rfl (fun M103 h103 => ?_)⟩
  refine ⟨(by decide +kernel), (by decide +kernel), (by decide +kernel), (by decide +kernel), y_new (b' := 103) h103 (by decide +kernel) rfl (fun M104 h104 => ?_)⟩
  rw [h103.1]
  refine ⟨(h104.ob 9 5 (by decide +kernel) (by decide +kernel) (by decide +kernel)), y_sr (r' := 93) h104 (by decide +kernel) (by decide +kernel) rfl (fun M105 h105 => ?_)⟩
  refine ⟨(by decide +kernel), (by decide +kernel), (by decide +kernel), (by decide +kernel), y_new (b' := 104) h105 (by decide +kernel) rfl (fun M106 h106 => ?_)⟩
  rw [h105.1]
  refine ⟨(h106.ob 9 5 (by decide +kernel) (by decide +kernel) (by decide +kernel)), y_sr (r' := 94) h106 (by decide +kernel) (by decide +kernel) rfl (fun M107 h107 => ?_)⟩
  exact hQ _ h107
theorem s_Shape_init_116 {L : Nat} {xs : Nat → Int32} {M0 : eM} {Q : eM → Prop} (h0 : y_I L xs 117 106 M0) (hQ : ∀ M, y_I L xs 119 108 M → Q M) : w_Shape_init 2 5 116 M0 Q := by
  unfold w_Shape_init
  refine ⟨(by decide +kernel), ?_⟩
  refine ⟨(by decide +kernel), (by decide +kernel), y_new (b' := 118) h0 (by decide +kernel) rfl (fun M1 h1 => ?_)⟩
  rw [h0.1]
  refine ⟨(by decide +kernel), 1, 4, (by decide +kernel), (by decide +kernel), ?_⟩
  refine y_row (n := 4) (b' := 119) (r' := 107) h1 (by decide +kernel) (by decide +kernel) (by decide +kernel) (by decide +kernel) (by decide +kernel) (by decide +kernel) (by decide +kernel) (by decide +kernel) rfl rfl (fun M2 h2 => ?_)
  refine ⟨(h2.ob 116 8 (by decide +kernel) (by decide +kernel) (by decide +kernel)), y_sr (r' := 108) h2 (by decide +kernel) (by decide +kernel) rfl (fun M3 h3 => ?_)⟩
  exact hQ _ h3
theorem s_Shape_init_119 {L : Nat} {xs : Nat → Int32} {M0 : eM} {Q : eM → Prop} (h0 : y_I L xs 120 109 M0) (hQ : ∀ M, y_I L xs 122 111 M → Q M) : w_Shape_init 2 5 119 M0 Q := by
  unfold w_Shape_init
  refine ⟨(by decide +kernel), ?_⟩
  refine ⟨(by decide +kernel), (by decide +kernel), y_new (b' := 121) h0 (by decide +kernel) rfl (fun M1 h1 => ?_)⟩
  rw [h0.1]
  refine ⟨(by decide +kernel), 1, 4, (by decide +kernel), (by decide +kernel), ?_⟩
  refine y_row (n := 4) (b' := 122) (r' := 110) h1 (by decide +kernel) (by decide +kernel) (by decide +kernel) (by decide +kernel) (by decide +kernel) (by decide +kernel) (by decide +kernel) (by decide +kernel) rfl rfl (fun M2 h2 => ?_)
  refine ⟨(h2.ob 119 8 (by decide +kernel) (by decide +kernel) (by decide +kernel)), y_sr (r' := 111) h2 (by decide +kernel) (by decide +kernel) rfl (fun M3 h3 => ?_)⟩
  exact hQ _ h3
theorem s_Shape_init_122 {L : Nat} {xs : Nat → Int32} {M0 : eM} {Q : eM → Prop} (h0 : y_I L xs 123 112 M0) (hQ : ∀ M, y_I L xs 125 114 M → Q M) : w_Shape_init 2 5 122 M0 Q := by
  unfold w_Shape_init
  refine ⟨(by decide +kernel), ?_⟩
  refine ⟨(by decide +kernel), (by decide +kernel), y_new (b' := 124) h0 (by decide +kernel) rfl (fun M1 h1 => ?_)⟩
  rw [h0.1]
  refine ⟨(by decide +kernel), 1, 4, (by decide +kernel), (by decide +kernel), ?_⟩
  refine y_row (n := 4) (b' := 125) (r' := 113) h1 (by decide +kernel) (by decide +kernel) (by decide +kernel) (by decide +kernel) (by decide +kernel) (by decide +kernel) (by decide +kernel) (by decide +kernel) rfl rfl (fun M2 h2 => ?_)
  refine ⟨(h2.ob 122 8 (by decide +kernel) (by decide +kernel) (by decide +kernel)), y_sr (r' := 114) h2 (by decide +kernel) (by decide +kernel) rfl (fun M3 h3 => ?_)⟩
  exact hQ _ h3
theorem s_Shape_init_125 {L : Nat} {xs : Nat → Int32} {M0 : eM} {Q : eM → Prop} (h0 : y_I L xs 126 115 M0) (hQ : ∀ M, y_I L xs 128 117 M → Q M) : w_Shape_init 2 5 125 M0 Q := by
  unfold w_Shape_init
  refine ⟨(by decide +kernel), ?_⟩
  refine ⟨(by decide +kernel), (by decide +kernel), y_new (b' := 127) h0 (by decide +kernel) rfl (fun M1 h1 => ?_)⟩
  rw [h0.1]
  refine ⟨(by decide +kernel), 1, 4, (by decide +kernel), (by decide +kernel), ?_⟩
  refine y_row (n := 4) (b' := 128) (r' := 116) h1 (by decide +kernel) (by decide +kernel) (by decide +kernel) (by decide +kernel) (by decide +kernel) (by decide +kernel) (by decide +kernel) (by decide +kernel) rfl rfl (fun M2 h2 => ?_)
  refine ⟨(h2.ob 125 8 (by decide +kernel) (by decide +kernel) (by decide +kernel)), y_sr (r' := 117) h2 (by decide +kernel) (by decide +kernel) rfl (fun M3 h3 => ?_)⟩
  exact hQ _ h3
theorem s_Shape_init_128 {L : Nat} {xs : Nat → Int32} {M0 : eM} {Q : eM → Prop} (h0 : y_I L xs 129 118 M0) (hQ : ∀ M, y_I L xs 131 120 M → Q M) : w_Shape_init 2 5 128 M0 Q := by
  unfold w_Shape_init
  refine ⟨(by decide +kernel), ?_⟩
  refine ⟨(by decide +kernel), (by decide +kernel), y_new (b' := 130) h0 (by decide +kernel) rfl (fun M1 h1 => ?_)⟩
  rw [h0.1]
  refine ⟨(by decide +kernel), 1, 4, (by decide +kernel), (by decide +kernel), ?_⟩
  refine y_row (n := 4) (b' := 131) (r' := 119) h1 (by decide +kernel) (by decide +kernel) (by decide +kernel) (by decide +kernel) (by decide +kernel) (by decide +kernel) (by decide +kernel) (by decide +kernel) rfl rfl (fun M2 h2 => ?_)
  refine ⟨(h2.ob 128 8 (by decide +kernel) (by decide +kernel) (by decide +kernel)), y_sr (r' := 120) h2 (by decide +kernel) (by decide +kernel) rfl (fun M3 h3 => ?_)⟩
  exact hQ _ h3
theorem s_Shape_init_131 {L : Nat} {xs : Nat → Int32} {M0 : eM} {Q : eM → Prop} (h0 : y_I L xs 132 121 M0) (hQ : ∀ M, y_I L xs 134 123 M → Q M) : w_Shape_init 2 5 131 M0 Q := by
  unfold w_Shape_init
  refine ⟨(by decide +kernel), ?_⟩
  refine ⟨(by decide +kernel), (by decide +kernel), y_new (b' := 133) h0 (by decide +kernel) rfl (fun M1 h1 => ?_)⟩
  rw [h0.1]
  refine ⟨(by decide +kernel), 1, 4, (by decide +kernel), (by decide +kernel), ?_⟩
  refine y_row (n := 4) (b' := 134) (r' := 122) h1 (by decide +kernel) (by decide +kernel) (by decide +kernel) (by decide +kernel) (by decide +kernel) (by decide +kernel) (by decide +kernel) (by decide +kernel) rfl rfl (fun M2 h2 => ?_)
  refine ⟨(h2.ob 131 8 (by decide +kernel) (by decide +kernel) (by decide +kernel)), y_sr (r' := 123) h2 (by decide +kernel) (by decide +kernel) rfl (fun M3 h3 => ?_)⟩
  exact hQ _ h3
theorem s_Shape_init_134 {L : Nat} {xs : Nat → Int32} {M0 : eM} {Q : eM → Prop} (h0 : y_I L xs 135 124 M0) (hQ : ∀ M, y_I L xs 137 126 M → Q M) : w_Shape_init 2 5 134 M0 Q := by
  unfold w_Shape_init
  refine ⟨(by decide +kernel), ?_⟩
  refine ⟨(by decide +kernel), (by decide +kernel), y_new (b' := 136) h0 (by decide +kernel) rfl (fun M1 h1 => ?_)⟩
  rw [h0.1]
  refine ⟨(by decide +kernel), 1, 4, (by decide +kernel), (by decide +kernel), ?_⟩
  refine y_row (n := 4) (b' := 137) (r' := 125) h1 (by decide +kernel) (by decide +kernel) (by decide +kernel) (by decide +kernel) (by decide +kernel) (by decide +kernel) (by decide +kernel) (by decide +kernel) rfl rfl (fun M2 h2 => ?_)
  refine ⟨(h2.ob 134 8 (by decide +kernel) (by decide +kernel) (by decide +kernel)), y_sr (r' := 126) h2 (by decide +kernel) (by decide +kernel) rfl (fun M3 h3 => ?_)⟩
  exact hQ _ h3
theorem s_Shape_init_137 {L : Nat} {xs : Nat → Int32} {M0 : eM} {Q : eM → Prop} (h0 : y_I L xs 138 127 M0) (hQ : ∀ M, y_I L xs 140 129 M → Q M) : w_Shape_init 2 5 137 M0 Q := by
  unfold w_Shape_init
  refine ⟨(by decide +kernel), ?_⟩
  refine ⟨(by decide +kernel), (by decide +kernel), y_new (b' := 139) h0 (by decide +kernel) rfl (fun M1 h1 => ?_)⟩
  rw [h0.1]
  refine ⟨(by decide +kernel), 1, 4, (by decide +kernel), (by decide +kernel), ?_⟩
  refine y_row (n := 4) (b' := 140) (r' := 128) h1 (by decide +kernel) (by decide +kernel) (by decide +kernel) (by decide +kernel) (by decide +kernel) (by decide +kernel) (by decide +kernel) (by decide +kernel) rfl rfl (fun M2 h2 => ?_)
  refine ⟨(h2.ob 137 8 (by decide +kernel) (by decide +kernel) (by decide +kernel)), y_sr (r' := 129) h2 (by decide +kernel) (by decide +kernel) rfl (fun M3 h3 => ?_)⟩
  exact hQ _ h3
theorem s_Shape_init_141 {L : Nat} {xs : Nat → Int32} {M0 : eM} {Q : eM → Prop} (h0 : y_I L xs 142 131 M0) (hQ : ∀ M, y_I L xs 144 133 M → Q M) : w_Shape_init 2 5 141 M0 Q := by
  unfold w_Shape_init
  refine ⟨(by decide +kernel), ?_⟩
  refine ⟨(by decide +kernel), (by decide +kernel), y_new (b' := 143) h0 (by decide +kernel) rfl (fun M1 h1 => ?_)⟩
  rw [h0.1]
  refine ⟨(by decide +kernel), 1, 4, (by decide +kernel), (by decide +kernel), ?_⟩
  refine y_row (n := 4) (b' := 144) (r' := 132) h1 (by decide +kernel) (by decide +kernel) (by decide +kernel) (by decide +kernel) (by decide +kernel) (by decide +kernel) (by decide +kernel) (by decide +kernel) rfl rfl (fun M2 h2 => ?_)
  refine ⟨(h2.ob 141 8 (by decide +kernel) (by decide +kernel) (by decide +kernel)), y_sr (r' := 133) h2 (by decide +kernel) (by decide +kernel) rfl (fun M3 h3 => ?_)⟩
  exact hQ _ h3
theorem s_Shape_init_144 {L : Nat} {xs : Nat → Int32} {M0 : eM} {Q : eM → Prop} (h0 : y_I L xs 145 134 M0) (hQ : ∀ M, y_I L xs 147 136 M → Q M) : w_Shape_init 2 5 144 M0 Q := by
  unfold w_Shape_init
  refine ⟨(by decide +kernel), ?_⟩
  refine ⟨(by decide +kernel), (by decide +kernel), y_new (b' := 146) h0 (by decide +kernel) rfl (fun M1 h1 => ?_)⟩
  rw [h0.1]
  refine ⟨(by decide +kernel), 1, 4, (by decide +kernel), (by decide +kernel), ?_⟩
  refine y_row (n := 4) (b' := 147) (r' := 135) h1 (by decide +kernel) (by decide +kernel) (by decide +kernel) (by decide +kernel) (by decide +kernel) (by decide +kernel) (by decide +kernel) (by decide +kernel) rfl rfl (fun M2 h2 => ?_)
  refine ⟨(h2.ob 144 8 (by decide +kernel) (by decide +kernel) (by decide +kernel)), y_sr (r' := 136) h2 (by decide +kernel) (by decide +kernel) rfl (fun M3 h3 => ?_)⟩
  exact hQ _ h3
theorem s_Shape_init_147 {L : Nat} {xs : Nat → Int32} {M0 : eM} {Q : eM → Prop} (h0 : y_I L xs 148 137 M0) (hQ : ∀ M, y_I L xs 150 139 M → Q M) : w_Shape_init 2 5 147 M0 Q := by
  unfold w_Shape_init
  refine ⟨(by decide +kernel), ?_⟩
  refine ⟨(by decide +kernel), (by decide +kernel), y_new (b' := 149) h0 (by decide +kernel) rfl (fun M1 h1 => ?_)⟩
  rw [h0.1]
  refine ⟨(by decide +kernel), 1, 4, (by decide +kernel), (by decide +kernel), ?_⟩
  refine y_row (n := 4) (b' := 150) (r' := 138) h1 (by decide +kernel) (by decide +kernel) (by decide +kernel) (by decide +kernel) (by decide +kernel) (by decide +kernel) (by decide +kernel) (by decide +kernel) rfl rfl (fun M2 h2 => ?_)
  refine ⟨(h2.ob 147 8 (by decide +kernel) (by decide +kernel) (by decide +kernel)), y_sr (r' := 139) h2 (by decide +kernel) (by decide +kernel) rfl (fun M3 h3 => ?_)⟩
  exact hQ _ h3
theorem s_Shape_init_150 {L : Nat} {xs : Nat → Int32} {M0 : eM} {Q : eM → Prop} (h0 : y_I L xs 151 140 M0) (hQ : ∀ M, y_I L xs 153 142 M → Q M) : w_Shape_init 2 5 150 M0 Q := by
  unfold w_Shape_init
  refine ⟨(by decide +kernel), ?_⟩
  refine ⟨(by decide +kernel), (by decide +kernel), y_new (b' := 152) h0 (by decide +kernel) rfl (fun M1 h1 => ?_)⟩
  rw [h0.1]
  refine ⟨(by decide +kernel), 1, 4, (by decide +kernel), (by decide +kernel), ?_⟩
  refine y_row (n := 4) (b' := 153) (r' := 141) h1 (by decide +kernel) (by decide +kernel) (by decide +kernel) (by decide +kernel) (by decide +kernel) (by decide +kernel) (by decide +kernel) (by decide +kernel) rfl rfl (fun M2 h2 => ?_)
  refine ⟨(h2.ob 150 8 (by decide +kernel) (by decide +kernel) (by decide +kernel)), y_sr (r' := 142) h2 (by decide +kernel) (by decide +kernel) rfl (fun M3 h3 => ?_)⟩
  exact hQ _ h3
theorem s_Shape_init_153 {L : Nat} {xs : Nat → Int32} {M0 : eM} {Q : eM → Prop} (h0 : y_I L xs 154 143 M0) (hQ : ∀ M, y_I L xs 156 145 M → Q M) : w_Shape_init 2 5 153 M0 Q := by
  unfold w_Shape_init
  refine ⟨(by decide +kernel), ?_⟩
  refine ⟨(by decide +kernel), (by decide +kernel), y_new (b' := 155) h0 (by decide +kernel) rfl (fun M1 h1 => ?_)⟩
  rw [h0.1]
  refine ⟨(by decide +kernel), 1, 4, (by decide +kernel), (by decide +kernel), ?_⟩
  refine y_row (n := 4) (b' := 156) (r' := 144) h1 (by decide +kernel) (by decide +kernel) (by decide +kernel) (by decide +kernel) (by decide +kernel) (by decide +kernel) (by decide +kernel) (by decide +kernel) rfl rfl (fun M2 h2 => ?_)
  refine ⟨(h2.ob 153 8 (by decide +kernel) (by decide +kernel) (by decide +kernel)), y_sr (r' := 145) h2 (by decide +kernel) (by decide +kernel) rfl (fun M3 h3 => ?_)⟩
  exact hQ _ h3
theorem s_Shape_init_156 {L : Nat} {xs : Nat → Int32} {M0 : eM} {Q : eM → Prop} (h0 : y_I L xs 157 146 M0) (hQ : ∀ M, y_I L xs 159 148 M → Q M) : w_Shape_init 2 5 156 M0 Q := by
  unfold w_Shape_init
  refine ⟨(by decide +kernel), ?_⟩
  refine ⟨(by decide +kernel), (by decide +kernel), y_new (b' := 158) h0 (by decide +kernel) rfl (fun M1 h1 => ?_)⟩
  rw [h0.1]
  refine ⟨(by decide +kernel), 1, 4, (by decide +kernel), (by decide +kernel), ?_⟩
  refine y_row (n := 4) (b' := 159) (r' := 147) h1 (by decide +kernel) (by decide +kernel) (by decide +kernel) (by decide +kernel) (by decide +kernel) (by decide +kernel) (by decide +kernel) (by decide +kernel) rfl rfl (fun M2 h2 => ?_)
  refine ⟨(h2.ob 156 8 (by decide +kernel) (by decide +kernel) (by decide +kernel)), y_sr (r' := 148) h2 (by decide +kernel) (by decide +kernel) rfl (fun M3 h3 => ?_)⟩
  exact hQ _ h3
theorem s_Shape_init_159 {L : Nat} {xs : Nat → Int32} {M0 : eM} {Q : eM → Prop} (h0 : y_I L xs 160 149 M0) (hQ : ∀ M, y_I L xs 162 151 M → Q M) : w_Shape_init 2 5 159 M0 Q := by
  unfold w_Shape_init
  refine ⟨(by decide +kernel), ?_⟩
  refine ⟨(by decide +kernel), (by decide +kernel), y_new (b' := 161) h0 (by decide +kernel) rfl (fun M1 h1 => ?_)⟩
  rw [h0.1]
  refine ⟨(by decide +kernel), 1, 4, (by decide +kernel), (by decide +kernel), ?_⟩
  refine y_row (n := 4) (b' := 162) (r' := 150) h1 (by decide +kernel) (by decide +kernel) (by decide +kernel) (by decide +kernel) (by decide +kernel) (by decide +kernel) (by decide +kernel) (by decide +kernel) rfl rfl (fun M2 h2 => ?_)
  refine ⟨(h2.ob 159 8 (by decide +kernel) (by decide +kernel) (by decide +kernel)), y_sr (r' := 151) h2 (by decide +kernel) (by decide +kernel) rfl (fun M3 h3 => ?_)⟩
  exact hQ _ h3
theorem s_Shape_init_162 {L : Nat} {xs : Nat → Int32} {M0 : eM} {Q : eM → Prop} (h0 : y_I L xs 163 152 M0) (hQ : ∀ M, y_I L xs 165 154 M → Q M) : w_Shape_init 2 5 162 M0 Q := by
  unfold w_Shape_init
  refine ⟨(by decide +kernel), ?_⟩
  refine ⟨(by decide +kernel), (by decide +kernel), y_new (b' := 164) h0 (by decide +kernel) rfl (fun M1 h1 => ?_)⟩
  rw [h0.1]
  refine ⟨(by decide +kernel), 1, 4, (by decide +kernel), (by decide +kernel), ?_⟩
  refine y_row (n := 4) (b' := 165) (r' := 153) h1 (by decide +kernel) (by decide +kernel) (by decide +kernel) (by decide +kernel) (by decide +kernel) (by decide +kernel) (by decide +kernel) (by decide +kernel) rfl rfl (fun M2 h2 => ?_)
  refine ⟨(h2.ob 162 8 (by decide +kernel) (by decide +kernel) (by decide +kernel)), y_sr (r' := 154) h2 (by decide +kernel) (by decide +kernel) rfl (fun M3 h3 => ?_)⟩
  exact hQ _ h3
theorem s_Shape_init_165 {L : Nat} {xs : Nat → Int32} {M0 : eM} {Q : eM → Prop} (h0 : y_I L xs 166 155 M0) (hQ : ∀ M, y_I L xs 168 157 M → Q M) : w_Shape_init 2 5 165 M0 Q := by
  unfold w_Shape_init
  refine ⟨(by decide +kernel), ?_⟩
  refine ⟨(by decide +kernel), (by decide +kernel), y_new (b' := 167) h0 (by decide +kernel) rfl (fun M1 h1 => ?_)⟩
  rw [h0.1]
  refine ⟨(by decide +kernel), 1, 4, (by decide +kernel), (by decide +kernel), ?_⟩
  refine y_row (n := 4) (b' := 168) (r' := 156) h1 (by decide +kernel) (by decide +kernel) (by decide +kernel) (by decide +kernel) (by decide +kernel) (by decide +kernel) (by decide +kernel) (by decide +kernel) rfl rfl (fun M2 h2 => ?_)
  refine ⟨(h2.ob 165 8 (by decide +kernel) (by decide +kernel) (by decide +kernel)), y_sr (r' := 157) h2 (by decide +kernel) (by decide +kernel) rfl (fun M3 h3 => ?_)⟩
  exact hQ _ h3
theorem s_Shape_init_168 {L : Nat} {xs : Nat → Int32} {M0 : eM} {Q : eM → Prop} (h0 : y_I L xs 169 158 M0) (hQ : ∀ M, y_I L xs 171 160 M → Q M) : w_Shape_init 2 5 168 M0 Q := by
  unfold w_Shape_init
  refine ⟨(by decide +kernel), ?_⟩
  refine ⟨(by decide +kernel), (by decide +kernel), y_new (b' := 170) h0 (by decide +kernel) rfl (fun M1 h1 => ?_)⟩
  rw [h0.1]
  refine ⟨(by decide +kernel), 1, 4, (by decide +kernel), (by decide +kernel), ?_⟩
  refine y_row (n := 4) (b' := 171) (r' := 159) h1 (by decide +kernel) (by decide +kernel) (by decide +kernel) (by decide +kernel) (by decide +kernel) (by decide +kernel) (by decide +kernel) (by decide +kernel) rfl rfl (fun M2 h2 => ?_)
  refine ⟨(h2.ob 168 8 (by decide +kernel) (by decide +kernel) (by decide +kernel)), y_sr (r' := 160) h2 (by decide +kernel) (by decide +kernel) rfl (fun M3 h3 => ?_)⟩
  exact hQ _ h3
theorem s_Shape_init_171 {L : Nat} {xs : Nat → Int32} {M0 : eM} {Q : eM → Prop} (h0 : y_I L xs 172 161 M0) (hQ : ∀ M, y_I L xs 174 163 M → Q M) : w_Shape_init 2 5 171 M0 Q := by
  unfold w_Shape_init
  refine ⟨(by decide +kernel), ?_⟩
  refine ⟨(by decide +kernel), (by decide +kernel), y_new (b' := 173) h0 (by decide +kernel) rfl (fun M1 h1 => ?_)⟩
  rw [h0.1]
  refine ⟨(by decide +kernel), 1, 4, (by decide +kernel), (by decide +kernel), ?_⟩
  refine y_row (n := 4) (b' := 174) (r' := 162) h1 (by decide +kernel) (by decide +kernel) (by decide +kernel) (by decide +kernel) (by decide +kernel) (by decide +kernel) (by decide +kernel) (by decide +kernel) rfl rfl (fun M2 h2 => ?_)
  refine ⟨(h2.ob 171 8 (by decide +kernel) (by decide +kernel) (by decide +kernel)), y_sr (r' := 163) h2 (by decide +kernel) (by decide +kernel) rfl (fun M3 h3 => ?_)⟩
  exact hQ _ h3
theorem s_Shape_init_174 {L : Nat} {xs : Nat → Int32} {M0 : eM} {Q : eM → Prop} (h0 : y_I L xs 175 164 M0) (hQ : ∀ M, y_I L xs 177 166 M → Q M) : w_Shape_init 2 5 174 M0 Q := by
  unfold w_Shape_init
  refine ⟨(by decide +kernel), ?_⟩
  refine ⟨(by decide +kernel), (by decide +kernel), y_new (b' := 176) h0 (by decide +kernel) rfl (fun M1 h1 => ?_)⟩
  rw [h0.1]
  refine ⟨(by decide +kernel), 1, 4, (by decide +kernel), (by decide +kernel), ?_⟩
  refine y_row (n := 4) (b' := 177) (r' := 165) h1 (by decide +kernel) (by decide +kernel) (by decide +kernel) (by decide +kernel) (by decide +kernel) (by decide +kernel) (by decide +kernel) (by decide +kernel) rfl rfl (fun M2 h2 => ?_)
  refine ⟨(h2.ob 174 8 (by decide +kernel) (by decide +kernel) (by decide +kernel)), y_sr (r' := 166) h2 (by decide +kernel) (by decide +kernel) rfl (fun M3 h3 => ?_)⟩
  exact hQ _ h3
theorem s_Shape_init_177 {L : Nat} {xs : Nat → Int32} {M0 : eM} {Q : eM → Prop} (h0 : y_I L xs 178 167 M0) (hQ : ∀ M, y_I L xs 180 169 M → Q M) : w_Shape_init 2 5 177 M0 Q := by
  unfold w_Shape_init
  refine ⟨(by decide +kernel), ?_⟩
  refine ⟨(by decide +kernel), (by decide +kernel), y_new (b' := 179) h0 (by decide +kernel) rfl (fun M1 h1 => ?_)⟩
  rw [h0.1]
  refine ⟨(by decide +kernel), 1, 4, (by decide +kernel), (by decide +kernel), ?_⟩
  refine y_row (n := 4) (b' := 180) (r' := 168) h1 (by decide +kernel) (by decide +kernel) (by decide +kernel) (by decide +kernel) (by decide +kernel) (by decide +kernel) (by decide +kernel) (by decide +kernel) rfl rfl (fun M2 h2 => ?_)
  refine ⟨(h2.ob 177 8 (by decide +kernel) (by decide +kernel) (by decide +kernel)), y_sr (r' := 169) h2 (by decide +kernel) (by decide +kernel) rfl (fun M3 h3 => ?_)⟩
  exact hQ _ h3
theorem s_Shape_init_180 {L : Nat} {xs : Nat → Int32} {M0 : eM} {Q : eM → Prop} (h0 : y_I L xs 181 170 M0) (hQ : ∀ M, y_I L xs 183 172 M → Q M) : w_Shape_init 2 5 180 M0 Q := by
  unfold w_Shape_init
  refine ⟨(by decide +kernel), ?_⟩
  refine ⟨(by decide +kernel), (by decide +kernel), y_new (b' := 182) h0 (by decide +kernel) rfl (fun M1 h1 => ?_)⟩
  rw [h0.1]
  refine ⟨(by decide +kernel), 1, 4, (by decide +kernel), (by decide +kernel), ?_⟩
  refine y_row (n := 4) (b' := 183) (r' := 171) h1 (by decide +kernel) (by decide +kernel) (by decide +kernel) (by decide +kernel) (by decide +kernel) (by decide +kernel) (by decide +kernel) (by decide +kernel) rfl rfl (fun M2 h2 => ?_)
  refine ⟨(h2.ob 180 8 (by decide +kernel) (by decide +kernel) (by decide +kernel)), y_sr (r' := 172) h2 (by decide +kernel) (by decide +kernel) rfl (fun M3 h3 => ?_)⟩
  exact hQ _ h3
theorem s_Shape_init_183 {L : Nat} {xs : Nat → Int32} {M0 : eM} {Q : eM → Prop} (h0 : y_I L xs 184 173 M0) (hQ : ∀ M, y_I L xs 186 175 M → Q M) : w_Shape_init 2 5 183 M0 Q := by
  unfold w_Shape_init
  refine ⟨(by decide +kernel), ?_⟩
  refine ⟨(by decide +kernel), (by decide +kernel), y_new (b' := 185) h0 (by decide +kernel) rfl (fun M1 h1 => ?_)⟩
  rw [h0.1]
  refine ⟨(by decide +kernel), 1, 4, (by decide +kernel), (by decide +kernel), ?_⟩
  refine y_row (n := 4) (b' := 186) (r' := 174) h1 (by decide +kernel) (by decide +kernel) (by decide +kernel) (by decide +kernel) (by decide +kernel) (by decide +kernel) (by decide +kernel) (by decide +kernel) rfl rfl (fun M2 h2 => ?_)
  refine ⟨(h2.ob 183 8 (by decide +kernel) (by decide +kernel) (by decide +kernel)), y_sr (r' := 175) h2 (by decide +kernel) (by decide +kernel) rfl (fun M3 h3 => ?_)⟩
  exact hQ _ h3
theorem s_Shape_init_186 {L : Nat} {xs : Nat → Int32} {M0 : eM} {Q : eM → Prop} (h0 : y_I L xs 187 176 M0) (hQ : ∀ M, y_I L xs 189 178 M → Q M) : w_Shape_init 2 5 186 M0 Q := by
  unfold w_Shape_init
  refine ⟨(by decide +kernel), ?_⟩
  refine ⟨(by decide +kernel), (by decide +kernel), y_new (b' := 188) h0 (by decide +kernel) rfl (fun M1 h1 => ?_)⟩
  rw [h0.1]
  refine ⟨(by decide +kernel), 1, 4, (by decide +kernel), (by decide +kernel), ?_⟩
  refine y_row (n := 4) (b' := 189) (r' := 177) h1 (by decide +kernel) (by decide +kernel) (by decide +kernel) (by decide +kernel) (by decide +kernel) (by decide +kernel) (by decide +kernel) (by decide +kernel) rfl rfl (fun M2 h2 => ?_)
  refine ⟨(h2.ob 186 8 (by decide +kernel) (by decide +kernel) (by decide +kernel)), y_sr (r' := 178) h2 (by decide +kernel) (by decide +kernel) rfl (fun M3 h3 => ?_)⟩
  exact hQ _ h3
theorem s_Program_init_104 {L : Nat} {xs : Nat → Int32} {M0 : eM} {Q : eM → Prop} (h0 : y_I L xs 105 95 M0) (hQ : ∀ M, y_I L xs 199 189 M → Q M) : w_Program_init 94 9473 104 M0 Q := by
  unfold w_Program_init
  refine ⟨(by decide +kernel), ?_⟩
  refine ⟨(by decide +kernel), (by decide +kernel), y_new (b' := 106) h0 (by decide +kernel) rfl (fun M1 h1 => ?_)⟩
  rw [h0.1]
  refine ⟨(by decide +kernel), 1, 1500, (by decide +kernel), (by decide +kernel), ?_⟩
  refine y_row (n := 1500) (b' := 107) (r' := 96) h1 (by decide +kernel) (by decide +kernel) (by decide +kernel) (by decide +kernel) (by decide +kernel) (by decide +kernel) (by decide +kernel) (by decide +kernel) rfl rfl (fun M2 h2 => ?_)
  refine ⟨(h2.ob 104 5 (by decide +kernel) (by decide +kernel) (by decide +kernel)), y_sr (r' := 97) h2 (by decide +kernel) (by decide +kernel) rfl (fun M3 h3 => ?_)⟩
  refine ⟨(by decide +kernel), (by decide +kernel), y_new (b' := 108) h3 (by decide +kernel) rfl (fun M4 h4 => ?_)⟩
  rw [h3.1]
  refine ⟨(by decide +kernel), 1, 8, (by decide +kernel), (by decide +kernel), ?_⟩
  refine y_row (n := 8) (b' := 109) (r' := 98) h4 (by decide +kernel) (by decide +kernel) (by decide +kernel) (by decide +kernel) (by decide +kernel) (by decide +kernel) (by decide +kernel) (by decide +kernel) rfl rfl (fun M5 h5 => ?_)
  refine ⟨(h5.ob 104 5 (by decide +kernel) (by decide +kernel) (by decide +kernel)), y_sr (r' := 99) h5 (by decide +kernel) (by decide +kernel) rfl (fun M6 h6 => ?_)⟩
  refine ⟨(by decide +kernel), (by decide +kernel), y_new (b' := 110) h6 (by decide +kernel) rfl (fun M7 h7 => ?_)⟩
  rw [h6.1]
  refine ⟨(by decide +kernel), 1, 8, (by decide +kernel), (by decide +kernel), ?_⟩
  refine y_row (n := 8) (b' := 111) (r' := 100) h7 (by decide +kernel) (by decide +kernel) (by decide +kernel) (by decide +kernel) (by decide +kernel) (by decide +kernel) (by decide +kernel) (by decide +kernel) rfl rfl (fun M8 h8 => ?_)
  refine ⟨(h8.ob 104 5 (by decide +kernel) (by decide +kernel) (by decide +kernel)), y_sr (r' := 101) h8 (by decide +kernel) (by decide +kernel) rfl (fun M9 h9 => ?_)⟩
  refine ⟨(by decide +kernel), (by decide +kernel), y_new (b' := 112) h9 (by decide +kernel) rfl (fun M10 h10 => ?_)⟩
  rw [h9.1]
  refine ⟨(by decide +kernel), 1, 8, (by decide +kernel), (by decide +kernel), ?_⟩
  refine y_row (n := 8) (b' := 113) (r' := 102) h10 (by decide +kernel) (by decide +kernel) (by decide +kernel) (by decide +kernel) (by decide +kernel) (by decide +kernel) (by decide +kernel) (by decide +kernel) rfl rfl (fun M11 h11 => ?_)
  refine ⟨(h11.ob 104 5 (by decide +kernel) (by decide +kernel) (by decide +kernel)), y_sr (r' := 103) h11 (by decide +kernel) (by decide +kernel) rfl (fun M12 h12 => ?_)⟩
  refine ⟨(by decide +kernel), (by decide +kernel), y_new (b' := 114) h12 (by decide +kernel) rfl (fun M13 h13 => ?_)⟩
  rw [h12.1]
  refine ⟨(by decide +kernel), 1, 64, (by decide +kernel), (by decide +kernel), ?_⟩
  refine y_row (n := 64) (b' := 115) (r' := 104) h13 (by decide +kernel) (by decide +kernel) (by decide +kernel) (by decide +kernel) (by decide +kernel) (by decide +kernel) (by decide +kernel) (by decide +kernel) rfl rfl (fun M14 h14 => ?_)
  refine ⟨(h14.ob 104 5 (by decide +kernel) (by decide +kernel) (by decide +kernel)), y_sr (r' := 105) h14 (by decide +kernel) (by decide +kernel) rfl (fun M15 h15 => ?_)⟩
  refine ⟨(by decide +kernel), (by decide +kernel), (by decide +kernel), (by decide +kernel), y_new (b' := 116) h15 (by decide +kernel) rfl (fun M16 h16 => ?_)⟩
  rw [h15.1]
  refine ⟨(h16.ob 104 5 (by decide +kernel) (by decide +kernel) (by decide +kernel)), y_sr (r' := 106) h16 (by decide +kernel) (by decide +kernel) rfl (fun M17 h17 => ?_)⟩
  refine ⟨9, ?_⟩
  rw [u81]
  refine ⟨fun c => absurd c (by decide +kernel), fun _ => ?_⟩
  refine ⟨(h17.ob 104 5 (by decide +kernel) (by decide +kernel) (by decide +kernel)), ?_⟩
  rw [h17.gr 105 104 8 115 (by decide +kernel) (by decide +kernel)]
  refine ⟨(by decide +kernel), (by decide +kernel), y_new (b' := 117) h17 (by decide +kernel) rfl (fun M18 h18 => ?_)⟩
  rw [h17.1]
  refine ⟨(by decide +kernel), 2, 5, (by decide +kernel), (by decide +kernel), ?_⟩
  refine s_Shape_init_116 h18 (fun M19 h19 => ?_)
  refine ⟨Or.inr ⟨h19.ar 115 24 8 _ (by decide +kernel) (by decide +kernel) (by decide +kernel) (by unfold vp_in; decide +kernel), (h19.ob 116 8 (by decide +kernel) (by decide +kernel) (by decide +kernel))⟩, y_sr (r' := 109) h19 (by decide +kernel) (by decide +kernel) rfl (fun M20 h20 => ?_)⟩
  try dsimp only
  rw [u81]
  refine ⟨fun c => absurd c (by decide +kernel), fun _ => ?_⟩
  refine ⟨(h20.ob 104 5 (by decide +kernel) (by decide +kernel) (by decide +kernel)), ?_⟩
  rw [h20.gr 105 104 8 115 (by decide +kernel) (by decide +kernel)]
  refine ⟨(by decide +kernel), (by decide +kernel), y_new (b' := 120) h20 (by decide +kernel) rfl (fun M21 h21 => ?_)⟩
  rw [h20.1]
  refine ⟨(by decide +kernel), 2, 5, (by decide +kernel), (by decide +kernel), ?_⟩
  refine s_Shape_init_119 h21 (fun M22 h22 => ?_)
  refine ⟨Or.inr ⟨h22.ar 115 24 8 _ (by decide +kernel) (by decide +kernel) (by decide +kernel) (by unfold vp_in; decide +kernel), (h22.ob 119 8 (by decide +kernel) (by decide +kernel) (by decide +kernel))⟩, y_sr (r' := 112) h22 (by decide +kernel) (by decide +kernel) rfl (fun M23 h23 => ?_)⟩
  try dsimp only
  rw [u81]
  refine ⟨fun c => absurd c (by decide +kernel), fun _ => ?_⟩
  refine ⟨(h23.ob 104 5 (by decide +kernel) (by decide +kernel) (by decide +kernel)), ?_⟩
  rw [h23.gr 105 104 8 115 (by decide +kernel) (by decide +kernel)]
  refine ⟨(by decide +kernel), (by decide +kernel), y_new (b' := 123) h23 (by decide +kernel) rfl (fun M24 h24 => ?_)⟩
  rw [h23.1]
  refine ⟨(by decide +kernel), 2, 5, (by decide +kernel), (by decide +kernel), ?_⟩
  refine s_Shape_init_122 h24 (fun M25 h25 => ?_)
  refine ⟨Or.inr ⟨h25.ar 115 24 8 _ (by decide +kernel) (by decide +kernel) (by decide +kernel) (by unfold vp_in; decide +kernel), (h25.ob 122 8 (by decide +kernel) (by decide +kernel) (by decide +kernel))⟩, y_sr (r' := 115) h25 (by decide +kernel) (by decide +kernel) rfl (fun M26 h26 => ?_)⟩
  try dsimp only
  rw [u81]
  refine ⟨fun c => absurd c (by decide +kernel), fun _ => ?_⟩
  refine ⟨(h26.ob 104 5 (by decide +kernel) (by decide +kernel) (by decide +kernel)), ?_⟩
  rw [h26.gr 105 104 8 115 (by decide +kernel) (by decide +kernel)]
  refine ⟨(by decide +kernel), (by decide +kernel), y_new (b' := 126) h26 (by decide +kernel) rfl (fun M27 h27 => ?_)⟩
  rw [h26.1]
  refine ⟨(by decide +kernel), 2, 5, (by decide +kernel), (by decide +kernel), ?_⟩
  refine s_Shape_init_125 h27 (fun M28 h28 => ?_)
  refine ⟨Or.inr ⟨h28.ar 115 24 8 _ (by decide +kernel) (by decide +kernel) (by decide +kernel) (by unfold vp_in; decide +kernel), (h28.ob 125 8 (by decide +kernel) (by decide +kernel) (by decide +kernel))⟩, y_sr (r' := 118) h28 (by decide +kernel) (by decide +kernel) rfl (fun M29 h29 => ?_)⟩
  try dsimp only
  rw [u81]
  refine ⟨fun c => absurd c (by decide +kernel), fun _ => ?_⟩
  refine ⟨(h29.ob 104 5 (by decide +kernel) (by decide +kernel) (by decide +kernel)), ?_⟩
  rw [h29.gr 105 104 8 115 (by decide +kernel) (by decide +kernel)]
  refine ⟨(by decide +kernel), (by decide +kernel), y_new (b' := 129) h29 (by decide +kernel) rfl (fun M30 h30 => ?_)⟩
  rw [h29.1]
  refine ⟨(by decide +kernel), 2, 5, (by decide +kernel), (by decide +kernel), ?_⟩
  refine s_Shape_init_128 h30 (fun M31 h31 => ?_)
  refine ⟨Or.inr ⟨h31.ar 115 24 8 _ (by decide +kernel) (by decide +kernel) (by decide +kernel) (by unfold vp_in; decide +kernel), (h31.ob 128 8 (by decide +kernel) (by decide +kernel) (by decide +kernel))⟩, y_sr (r' := 121) h31 (by decide +kernel) (by decide +kernel) rfl (fun M32 h32 => ?_)⟩
  try dsimp only
  rw [u81]
  refine ⟨fun c => absurd c (by decide +kernel), fun _ => ?_⟩
  refine ⟨(h32.ob 104 5 (by decide +kernel) (by decide +kernel) (by decide +kernel)), ?_⟩
  rw [h32.gr 105 104 8 115 (by decide +kernel) (by decide +kernel)]
  refine ⟨(by decide +kernel), (by decide +kernel), y_new (b' := 132) h32 (by decide +kernel) rfl (fun M33 h33 => ?_)⟩
  rw [h32.1]
  refine ⟨(by decide +kernel), 2, 5, (by decide +kernel), (by decide +kernel), ?_⟩
  refine s_Shape_init_131 h33 (fun M34 h34 => ?_)
  refine ⟨Or.inr ⟨h34.ar 115 24 8 _ (by decide +kernel) (by decide +kernel) (by decide +kernel) (by unfold vp_in; decide +kernel), (h34.ob 131 8 (by decide +kernel) (by decide +kernel) (by decide +kernel))⟩, y_sr (r' := 124) h34 (by decide +kernel) (by decide +kernel) rfl (fun M35 h35 => ?_)⟩
  try dsimp only
  rw [u81]
  refine ⟨fun c => absurd c (by decide +kernel), fun _ => ?_⟩
  refine ⟨(h35.ob 104 5 (by decide +kernel) (by decide +kernel) (by decide +kernel)), ?_⟩
  rw [h35.gr 105 104 8 115 (by decide +kernel) (by decide +kernel)]
  refine ⟨(by decide +kernel), (by decide +kernel), y_new (b' := 135) h35 (by decide +kernel) rfl (fun M36 h36 => ?_)⟩
  rw [h35.1]
  refine ⟨(by decide +kernel), 2, 5, (by decide +kernel), (by decide +kernel), ?_⟩
  refine s_Shape_init_134 h36 (fun M37 h37 => ?_)
  refine ⟨Or.inr ⟨h37.ar 115 24 8 _ (by decide +kernel) (by decide +kernel) (by decide +kernel) (by unfold vp_in; decide +kernel), (h37.ob 134 8 (by decide +kernel) (by decide +kernel) (by decide +kernel))⟩, y_sr (r' := 127) h37 (by decide +kernel) (by decide +kernel) rfl (fun M38 h38 => ?_)⟩
  try dsimp only
  rw [u81]
  refine ⟨fun c => absurd c (by decide +kernel), fun _ => ?_⟩
  refine ⟨(h38.ob 104 5 (by decide +kernel) (by decide +kernel) (by decide +kernel)), ?_⟩
  rw [h38.gr 105 104 8 115 (by decide +kernel) (by decide +kernel)]
  refine ⟨(by decide +kernel), (by decide +kernel), y_new (b' := 138) h38 (by decide +kernel) rfl (fun M39 h39 => ?_)⟩
  rw [h38.1]
  refine ⟨(by decide +kernel), 2, 5, (by decide +kernel), (by decide +kernel), ?_⟩
  refine s_Shape_init_137 h39 (fun M40 h40 => ?_)
  refine ⟨Or.inr ⟨h40.ar 115 24 8 _ (by decide +kernel) (by decide +kernel) (by decide +kernel) (by unfold vp_in; decide +kernel), (h40.ob 137 8 (by decide +kernel) (by decide +kernel) (by decide +kernel))⟩, y_sr (r' := 130) h40 (by decide +kernel) (by decide +kernel) rfl (fun M41 h41 => ?_)⟩
  try dsimp only
  rw [u81]
  refine ⟨fun _ => ?_, fun c => absurd (by decide +kernel) c⟩
  refine ⟨(by decide +kernel), (by decide +kernel), (by decide +kernel), (by decide +kernel), y_new (b' := 141) h41 (by decide +kernel) rfl (fun M42 h42 => ?_)⟩
  rw [h41.1]
  refine ⟨(h42.ob 104 5 (by decide +kernel) (by decide +kernel) (by decide +kernel)), y_sr (r' := 131) h42 (by decide +kernel) (by decide +kernel) rfl (fun M43 h43 => ?_)⟩
  refine ⟨17, ?_⟩
  rw [u117]
  refine ⟨fun c => absurd c (by decide +kernel), fun _ => ?_⟩
  refine ⟨(h43.ob 104 5 (by decide +kernel) (by decide +kernel) (by decide +kernel)), ?_⟩
  rw [h43.gr 130 104 10 140 (by decide +kernel) (by decide +kernel)]
  refine ⟨(by decide +kernel), (by decide +kernel), y_new (b' := 142) h43 (by decide +kernel) rfl (fun M44 h44 => ?_)⟩
  rw [h43.1]
  refine ⟨(by decide +kernel), 2, 5, (by decide +kernel), (by decide +kernel), ?_⟩
  refine s_Shape_init_141 h44 (fun M45 h45 => ?_)
  refine ⟨Or.inr ⟨h45.ar 140 24 16 _ (by decide +kernel) (by decide +kernel) (by decide +kernel) (by unfold vp_in; decide +kernel), (h45.ob 141 8 (by decide +kernel) (by decide +kernel) (by decide +kernel))⟩, y_sr (r' := 134) h45 (by decide +kernel) (by decide +kernel) rfl (fun M46 h46 => ?_)⟩
  try dsimp only
  rw [u117]
  refine ⟨fun c => absurd c (by decide +kernel), fun _ => ?_⟩
  refine ⟨(h46.ob 104 5 (by decide +kernel) (by decide +kernel) (by decide +kernel)), ?_⟩
  rw [h46.gr 130 104 10 140 (by decide +kernel) (by decide +kernel)]
  refine ⟨(by decide +kernel), (by decide +kernel), y_new (b' := 145) h46 (by decide +kernel) rfl (fun M47 h47 => ?_)⟩
  rw [h46.1]
  refine ⟨(by decide +kernel), 2, 5, (by decide +kernel), (by decide +kernel), ?_⟩
  refine s_Shape_init_144 h47 (fun M48 h48 => ?_)
  refine ⟨Or.inr ⟨h48.ar 140 24 16 _ (by decide +kernel) (by decide +kernel) (by decide +kernel) (by unfold vp_in; decide +kernel), (h48.ob 144 8 (by decide +kernel) (by decide +kernel) (by decide +kernel))⟩, y_sr (r' := 137) h48 (by decide +kernel) (by decide +kernel) rfl (fun M49 h49 => ?_)⟩
  try dsimp only
  rw [u117]
  refine ⟨fun c => absurd c (by decide +kernel), fun _ => ?_⟩
  refine ⟨(h49.ob 104 5 (by decide +kernel) (by decide +kernel) (by decide +kernel)), ?_⟩
  rw [h49.gr 130 104 10 140 (by decide +kernel) (by decide +kernel)]
  refine ⟨(by decide +kernel), (by decide +kernel), y_new (b' := 148) h49 (by decide +kernel) rfl (fun M50 h50 => ?_)⟩
  rw [h49.1]
  refine ⟨(by decide +kernel), 2, 5, (by decide +kernel), (by decide +kernel), ?_⟩
  refine s_Shape_init_147 h50 (fun M51 h51 => ?_)
  refine ⟨Or.inr ⟨h51.ar 140 24 16 _ (by decide +kernel) (by decide +kernel) (by decide +kernel) (by unfold vp_in; decide +kernel), (h51.ob 147 8 (by decide +kernel) (by decide +kernel) (by decide +kernel))⟩, y_sr (r' := 140) h51 (by decide +kernel) (by decide +kernel) rfl (fun M52 h52 => ?_)⟩
  try dsimp only
  rw [u117]
  refine ⟨fun c => absurd c (by decide +kernel), fun _ => ?_⟩
  refine ⟨(h52.ob 104 5 (by decide +kernel) (by decide +kernel) (by decide +kernel)), ?_⟩
  rw [h52.gr 130 104 10 140 (by decide +kernel) (by decide +kernel)]
  refine ⟨(by decide +kernel), (by decide +kernel), y_new (b' := 151) h52 (by decide +kernel) rfl (fun M53 h53 => ?_)⟩
  rw [h52.1]
  refine ⟨(by decide +kernel), 2, 5, (by decide +kernel), (by decide +kernel), ?_⟩
  refine s_Shape_init_150 h53 (fun M54 h54 => ?_)
  refine ⟨Or.inr ⟨h54.ar 140 24 16 _ (by decide +kernel) (by decide +kernel) (by decide +kernel) (by unfold vp_in; decide +kernel), (h54.ob 150 8 (by decide +kernel) (by decide +kernel) (by decide +kernel))⟩, y_sr (r' := 143) h54 (by decide +kernel) (by decide +kernel) rfl (fun M55 h55 => ?_)⟩
  try dsimp only
  rw [u117]
  refine ⟨fun c => absurd c (by decide +kernel), fun _ => ?_⟩
  refine ⟨(h55.ob 104 5 (by decide +kernel) (by decide +kernel) (by decide +kernel)), ?_⟩
  rw [h55.gr 130 104 10 140 (by decide +kernel) (by decide +kernel)]
  refine ⟨(by decide +kernel), (by decide +kernel), y_new (b' := 154) h55 (by decide +kernel) rfl (fun M56 h56 => ?_)⟩
  rw [h55.1]
  refine ⟨(by decide +kernel), 2, 5, (by decide +kernel), (by decide +kernel), ?_⟩
  refine s_Shape_init_153 h56 (fun M57 h57 => ?_)
  refine ⟨Or.inr ⟨h57.ar 140 24 16 _ (by decide +kernel) (by decide +kernel) (by decide +kernel) (by unfold vp_in; decide +kernel), (h57.ob 153 8 (by decide +kernel) (by decide +kernel) (by decide +kernel))⟩, y_sr (r' := 146) h57 (by decide +kernel) (by decide +kernel) rfl (fun M58 h58 => ?_)⟩
  try dsimp only
  rw [u117]
  refine ⟨fun c => absurd c (by decide +kernel), fun _ => ?_⟩
  refine ⟨(h58.ob 104 5 (by decide +kernel) (by decide +kernel) (by decide +kernel)), ?_⟩
  rw [h58.gr 130 104 10 140 (by decide +kernel) (by decide +kernel)]
  refine ⟨(by decide +kernel), (by decide +kernel), y_new (b' := 157) h58 (by decide +kernel) rfl (fun M59 h59 => ?_)⟩
  rw [h58.1]
  refine ⟨(by decide +kernel), 2, 5, (by decide +kernel), (by decide +kernel), ?_⟩
  refine s_Shape_init_156 h59 (fun M60 h60 => ?_)
  refine ⟨Or.inr ⟨h60.ar 140 24 16 _ (by decide +kernel) (by decide +kernel) (by decide +kernel) (by unfold vp_in; decide +kernel), (h60.ob 156 8 (by decide +kernel) (by decide +kernel) (by decide +kernel))⟩, y_sr (r' := 149) h60 (by decide +kernel) (by decide +kernel) rfl (fun M61 h61 => ?_)⟩
  try dsimp only
  rw [u117]
  refine ⟨fun c => absurd c (by decide +kernel), fun _ => ?_⟩
  refine ⟨(h61.ob 104 5 (by decide +kernel) (by decide +kernel) (by decide +kernel)), ?_⟩
  rw [h61.gr 130 104 10 140 (by decide +kernel) (by decide +kernel)]
  refine ⟨(by decide +kernel), (by decide +kernel), y_new (b' := 160) h61 (by decide +kernel) rfl (fun M62 h62 => ?_)⟩
  rw [h61.1]
  refine ⟨(by decide +kernel), 2, 5, (by decide +kernel), (by decide +kernel), ?_⟩
  refine s_Shape_init_159 h62 (fun M63 h63 => ?_)
  refine ⟨Or.inr ⟨h63.ar 140 24 16 _ (by decide +kernel) (by decide +kernel) (by decide +kernel) (by unfold vp_in; decide +kernel), (h63.ob 159 8 (by decide +kernel) (by decide +kernel) (by decide +kernel))⟩, y_sr (r' := 152) h63 (by decide +kernel) (by decide +kernel) rfl (fun M64 h64 => ?_)⟩
  try dsimp only
  rw [u117]
  refine ⟨fun c => absurd c (by decide +kernel), fun _ => ?_⟩
  refine ⟨(h64.ob 104 5 (by decide +kernel) (by decide +kernel) (by decide +kernel)), ?_⟩
  rw [h64.gr 130 104 10 140 (by decide +kernel) (by decide +kernel)]
  refine ⟨(by decide +kernel), (by decide +kernel), y_new (b' := 163) h64 (by decide +kernel) rfl (fun M65 h65 => ?_)⟩
  rw [h64.1]
  refine ⟨(by decide +kernel), 2, 5, (by decide +kernel), (by decide +kernel), ?_⟩
  refine s_Shape_init_162 h65 (fun M66 h66 => ?_)
  refine ⟨Or.inr ⟨h66.ar 140 24 16 _ (by decide +kernel) (by decide +kernel) (by decide +kernel) (by unfold vp_in; decide +kernel), (h66.ob 162 8 (by decide +kernel) (by decide +kernel) (by decide +kernel))⟩, y_sr (r' := 155) h66 (by decide +kernel) (by decide +kernel) rfl (fun M67 h67 => ?_)⟩
  try dsimp only
  rw [u117]
  refine ⟨fun c => absurd c (by decide +kernel), fun _ => ?_⟩
  refine ⟨(h67.ob 104 5 (by decide +kernel) (by decide +kernel) (by decide +kernel)), ?_⟩
  rw [h67.gr 130 104 10 140 (by decide +kernel) (by decide +kernel)]
  refine ⟨(by decide +kernel), (by decide +kernel), y_new (b' := 166) h67 (by decide +kernel) rfl (fun M68 h68 => ?_)⟩
  rw [h67.1]
  refine ⟨(by decide +kernel), 2, 5, (by decide +kernel), (by decide +kernel), ?_⟩
  refine s_Shape_init_165 h68 (fun M69 h69 => ?_)
  refine ⟨Or.inr ⟨h69.ar 140 24 16 _ (by decide +kernel) (by decide +kernel) (by decide +kernel) (by unfold vp_in; decide +kernel), (h69.ob 165 8 (by decide +kernel) (by decide +kernel) (by decide +kernel))⟩, y_sr (r' := 158) h69 (by decide +kernel) (by decide +kernel) rfl (fun M70 h70 => ?_)⟩
  try dsimp only
  rw [u117]
  refine ⟨fun c => absurd c (by decide +kernel), fun _ => ?_⟩
  refine ⟨(h70.ob 104 5 (by decide +kernel) (by decide +kernel) (by decide +kernel)), ?_⟩
  rw [h70.gr 130 104 10 140 (by decide +kernel) (by decide +kernel)]
  refine ⟨(by decide +kernel), (by decide +kernel), y_new (b' := 169) h70 (by decide +kernel) rfl (fun M71 h71 => ?_)⟩
  rw [h70.1]
  refine ⟨(by decide +kernel), 2, 5, (by decide +kernel), (by decide +kernel), ?_⟩
  refine s_Shape_init_168 h71 (fun M72 h72 => ?_)
  refine ⟨Or.inr ⟨h72.ar 140 24 16 _ (by decide +kernel) (by decide +kernel) (by decide +kernel) (by unfold vp_in; decide +kernel), (h72.ob 168 8 (by decide +kernel) (by decide +kernel) (by decide +kernel))⟩, y_sr (r' := 161) h72 (by decide +kernel) (by decide +kernel) rfl (fun M73 h73 => ?_)⟩
  try dsimp only
  rw [u117]
  refine ⟨fun c => absurd c (by decide +kernel), fun _ => ?_⟩
  refine ⟨(h73.ob 104 5 (by decide +kernel) (by decide +kernel) (by decide +kernel)), ?_⟩
  rw [h73.gr 130 104 10 140 (by decide +kernel) (by decide +kernel)]
  refine ⟨(by decide +kernel), (by decide +kernel), y_new (b' := 172) h73 (by decide +kernel) rfl (fun M74 h74 => ?_)⟩
  rw [h73.1]
  refine ⟨(by decide +kernel), 2, 5, (by decide +kernel), (by decide +kernel), ?_⟩
  refine s_Shape_init_171 h74 (fun M75 h75 => ?_)
  refine ⟨Or.inr ⟨h75.ar 140 24 16 _ (by decide +kernel) (by decide +kernel) (by decide +kernel) (by unfold vp_in; decide +kernel), (h75.ob 171 8 (by decide +kernel) (by decide +kernel) (by decide +kernel))⟩, y_sr (r' := 164) h75 (by decide +kernel) (by decide +kernel) rfl (fun M76 h76 => ?_)⟩
  try dsimp only
  rw [u117]
  refine ⟨fun c => absurd c (by decide +kernel), fun _ => ?_⟩
  refine ⟨(h76.ob 104 5 (by decide +kernel) (by decide +kernel) (by decide +kernel)), ?_⟩
  rw [h76.gr 130 104 10 140 (by decide +kernel) (by decide +kernel)]
  refine ⟨(by decide +kernel), (by decide +kernel), y_new (b' := 175) h76 (by decide +kernel) rfl (fun M77 h77 => ?_)⟩
  rw [h76.1]
  refine ⟨(by decide +kernel), 2, 5, (by decide +kernel), (by decide +kernel), ?_⟩
  refine s_Shape_init_174 h77 (fun M78 h78 => ?_)
  refine ⟨Or.inr ⟨h78.ar 140 24 16 _ (by decide +kernel) (by decide +kernel) (by decide +kernel) (by unfold vp_in; decide +kernel), (h78.ob 174 8 (by decide +kernel) (by decide +kernel) (by decide +kernel))⟩, y_sr (r' := 167) h78 (by decide +kernel) (by decide +kernel) rfl (fun M79 h79 => ?_)⟩
  try dsimp only
  rw [u117]
  refine ⟨fun c => absurd c (by decide +kernel), fun _ => ?_⟩
  refine ⟨(h79.ob 104 5 (by decide +kernel) (by decide +kernel) (by decide +kernel)), ?_⟩
  rw [h79.gr 130 104 10 140 (by decide +kernel) (by decide +kernel)]
  refine ⟨(by decide +kernel), (by decide +kernel), y_new (b' := 178) h79 (by decide +kernel) rfl (fun M80 h80 => ?_)⟩
  rw [h79.1]
  refine ⟨(by decide +kernel), 2, 5, (by decide +kernel), (by decide +kernel), ?_⟩
  refine s_Shape_init_177 h80 (fun M81 h81 => ?_)
  refine ⟨Or.inr ⟨h81.ar 140 24 16 _ (by decide +kernel) (by decide +kernel) (by decide +kernel) (by unfold vp_in; decide +kernel), (h81.ob 177 8 (by decide +kernel) (by decide +kernel) (by decide +kernel))⟩, y_sr (r' := 170) h81 (by decide +kernel) (by decide +kernel) rfl (fun M82 h82 => ?_)⟩
  try dsimp only
  rw [u117]
  refine ⟨fun c => absurd c (by decide +kernel), fun _ => ?_⟩
  refine ⟨(h82.ob 104 5 (by decide +kernel) (by decide +kernel) (by decide +kernel)), ?_⟩
  rw [h82.gr 130 104 10 140 (by decide +kernel) (by decide +kernel)]
  refine ⟨(by decide +kernel), (by decide +kernel), y_new (b' := 181) h82 (by decide +kernel) rfl (fun M83 h83 => ?_)⟩
  rw [h82.1]
  refine ⟨(by decide +kernel), 2, 5, (by decide +kernel), (by decide +kernel), ?_⟩
  refine s_Shape_init_180 h83 (fun M84 h84 => ?_)
  refine ⟨Or.inr ⟨h84.ar 140 24 16 _ (by decide +kernel) (by decide +kernel) (by decide +kernel) (by unfold vp_in; decide +kernel), (h84.ob 180 8 (by decide +kernel) (by decide +kernel) (by decide +kernel))⟩, y_sr (r' := 173) h84 (by decide +kernel) (by decide +kernel) rfl (fun M85 h85 => ?_)⟩
  try dsimp only
  rw [u117]
  refine ⟨fun c => absurd c (by decide +kernel), fun _ => ?_⟩
  refine ⟨(h85.ob 104 5 (by decide +kernel) (by decide +kernel) (by decide +kernel)), ?_⟩
  rw [h85.gr 130 104 10 140 (by decide +kernel) (by decide +kernel)]
  refine ⟨(by decide +kernel), (by decide +kernel), y_new (b' := 184) h85 (by decide +kernel) rfl (fun M86 h86 => ?_)⟩
  rw [h85.1]
  refine ⟨(by decide +kernel), 2, 5, (by decide +kernel), (by decide +kernel), ?_⟩
  refine s_Shape_init_183 h86 (fun M87 h87 => ?_)
  refine ⟨Or.inr ⟨h87.ar 140 24 16 _ (by decide +kernel) (by decide +kernel) (by decide +kernel) (by unfold vp_in; decide +kernel), (h87.ob 183 8 (by decide +kernel) (by decide +kernel) (by decide +kernel))⟩, y_sr (r' := 176) h87 (by decide +kernel) (by decide +kernel) rfl (fun M88 h88 => ?_)⟩
  try dsimp only
  rw [u117]
  refine ⟨fun c => absurd c (by decide +kernel), fun _ => ?_⟩
  refine ⟨(h88.ob 104 5 (by decide +kernel) (by decide +kernel) (by decide +kernel)), ?_⟩
  rw [h88.gr 130 104 10 140 (by decide +kernel) (by decide +kernel)]
  refine ⟨(by decide +kernel), (by decide +kernel), y_new (b' := 187) h88 (by decide +kernel) rfl (fun M89 h89 => ?_)⟩
  rw [h88.1]
  refine ⟨(by decide +kernel), 2, 5, (by decide +kernel), (by decide +kernel), ?_⟩
  refine s_Shape_init_186 h89 (fun M90 h90 => ?_)
  refine ⟨Or.inr ⟨h90.ar 140 24 16 _ (by decide +kernel) (by decide +kernel) (by decide +kernel) (by unfold vp_in; decide +kernel), (h90.ob 186 8 (by decide +kernel) (by decide +kernel) (by decide +kernel))⟩, y_sr (r' := 179) h90 (by decide +kernel) (by decide +kernel) rfl (fun M91 h91 => ?_)⟩
  try dsimp only
  rw [u117]
  refine ⟨fun _ => ?_, fun c => absurd (by decide +kernel) c⟩
  refine ⟨(by decide +kernel), (by decide +kernel), y_new (b' := 190) h91 (by decide +kernel) rfl (fun M92 h92 => ?_)⟩
  rw [h91.1]
  refine ⟨(by decide +kernel), 1, 64, (by decide +kernel), (by decide +kernel), ?_⟩
  refine y_row (n := 64) (b' := 191) (r' := 180) h92 (by decide +kernel) (by decide +kernel) (by decide +kernel) (by decide +kernel) (by decide +kernel) (by decide +kernel) (by decide +kernel) (by decide +kernel) rfl rfl (fun M93 h93 => ?_)
  refine ⟨(h93.ob 104 5 (by decide +kernel) (by decide +kernel) (by decide +kernel)), y_sr (r' := 181) h93 (by decide +kernel) (by decide +kernel) rfl (fun M94 h94 => ?_)⟩
  refine ⟨(by decide +kernel), (by decide +kernel), y_new (b' := 192) h94 (by decide +kernel) rfl (fun M95 h95 => ?_)⟩
  rw [h94.1]
  refine ⟨(by decide +kernel), 1, 1500, (by decide +kernel), (by decide +kernel), ?_⟩
  refine y_row (n := 1500) (b' := 193) (r' := 182) h95 (by decide +kernel) (by decide +kernel) (by decide +kernel) (by decide +kernel) (by decide +kernel) (by decide +kernel) (by decide +kernel) (by decide +kernel) rfl rfl (fun M96 h96 => ?_)
  refine ⟨(h96.ob 104 5 (by decide +kernel) (by decide +kernel) (by decide +kernel)), y_sr (r' := 183) h96 (by decide +kernel) (by decide +kernel) rfl (fun M97 h97 => ?_)⟩
  refine ⟨(by decide +kernel), (by decide +kernel), y_new (b' := 194) h97 (by decide +kernel) rfl (fun M98 h98 => ?_)⟩
  rw [h97.1]
  refine ⟨(by decide +kernel), 1, 1500, (by decide +kernel), (by decide +kernel), ?_⟩
  refine y_row (n := 1500) (b' := 195) (r' := 184) h98 (by decide +kernel) (by decide +kernel) (by decide +kernel) (by decide +kernel) (by decide +kernel) (by decide +kernel) (by decide +kernel) (by decide +kernel) rfl rfl (fun M99 h99 => ?_)
  refine ⟨(h99.ob 104 5 (by decide +kernel) (by decide +kernel) (by decide +kernel)), y_sr (r' := 185) h99 (by decide +kernel) (by decide +kernel) rfl (fun M100 h100 => ?_)⟩
  refine ⟨(by decide +kernel), (by decide +kernel), y_new (b' := 196) h100 (by decide +kernel) rfl (fun M101 h101 => ?_)⟩
  rw [h100.1]
  refine ⟨(by decide +kernel), 1, 1500, (by decide +kernel), (by decide +kernel), ?_⟩
  refine y_row (n := 1500) (b' := 197) (r' := 186) h101 (by decide +kernel) (by decide +kernel) (by decide +kernel) (by decide +kernel) (by decide +kernel) (by decide +kernel) (by decide +kernel) (by decide +kernel) rfl rfl (fun M102 h102 => ?_)
  refine ⟨(h102.ob 104 5 (by decide +kernel) (by decide +kernel) (by decide +kernel)), y_sr (r' := 187) h102 (by decide +kernel) (by decide +kernel) rfl (fun M103 h103 => ?_)⟩
  refine ⟨(by decide +kernel), (by decide +kernel), (by decide +kernel), (by decide +kernel), y_new (b' := 198) h103 (by decide +kernel) rfl (fun M104 h104 => ?_)⟩
  rw [h103.1]
  refine ⟨(h104.ob 104 5 (by decide +kernel) (by decide +kernel) (by decide +kernel)), y_sr (r' := 188) h104 (by decide +kernel) (by decide +kernel) rfl (fun M105 h105 => ?_)⟩
  refine ⟨(by decide +kernel), (by decide +kernel), (by decide +kernel), (by decide +kernel), y_new (b' := 199) h105 (by decide +kernel) rfl (fun M106 h106 => ?_)⟩
  rw [h105.1]
  refine ⟨(h106.ob 104 5 (by decide +kernel) (by decide +kernel) (by decide +kernel)), y_sr (r' := 189) h106 (by decide +kernel) (by decide +kernel) rfl (fun M107 h107 => ?_)⟩
  exact hQ _ h107
theorem s_Reader_init_199 {L : Nat} {xs : Nat → Int32} {M0 : eM} {Q : eM → Prop} (h0 : y_I L xs 200 190 M0) (hQ : ∀ M, y_I L xs 200 191 M → Q M) : w_Reader_init 199 104 M0 Q := by
  unfold w_Reader_init
  refine ⟨(by decide +kernel), ?_⟩
  refine ⟨(h0.ob 199 6 (by decide +kernel) (by decide +kernel) (by decide +kernel)), y_sr (r' := 191) h0 (by decide +kernel) (by decide +kernel) rfl (fun M1 h1 => ?_)⟩
  exact hQ _ h1
theorem s_Decoder_init_200 {L : Nat} {xs : Nat → Int32} {M0 : eM} {Q : eM → Prop} (h0 : y_I L xs 201 192 M0) (hQ : ∀ M, y_I L xs 201 193 M → Q M) : w_Decoder_init 200 104 M0 Q := by
  unfold w_Decoder_init
  refine ⟨(by decide +kernel), ?_⟩
  refine ⟨(h0.ob 200 0 (by decide +kernel) (by decide +kernel) (by decide +kernel)), y_sr (r' := 193) h0 (by decide +kernel) (by decide +kernel) rfl (fun M1 h1 => ?_)⟩
  exact hQ _ h1
theorem s_Verifier_init_201 {L : Nat} {xs : Nat → Int32} {M0 : eM} {Q : eM → Prop} (h0 : y_I L xs 202 194 M0) (hQ : ∀ M, y_I L xs 204 198 M → Q M) : w_Verifier_init 2 1501 201 104 M0 Q := by
  unfold w_Verifier_init
  refine ⟨(by decide +kernel), ?_⟩
  refine ⟨(by decide +kernel), (by decide +kernel), y_new (b' := 203) h0 (by decide +kernel) rfl (fun M1 h1 => ?_)⟩
  rw [h0.1]
  refine ⟨(by decide +kernel), 1, 1500, (by decide +kernel), (by decide +kernel), ?_⟩
  refine y_row (n := 1500) (b' := 204) (r' := 195) h1 (by decide +kernel) (by decide +kernel) (by decide +kernel) (by decide +kernel) (by decide +kernel) (by decide +kernel) (by decide +kernel) (by decide +kernel) rfl rfl (fun M2 h2 => ?_)
  refine ⟨(h2.ob 201 10 (by decide +kernel) (by decide +kernel) (by decide +kernel)), y_sr (r' := 196) h2 (by decide +kernel) (by decide +kernel) rfl (fun M3 h3 => ?_)⟩
  refine ⟨(h3.ob 201 10 (by decide +kernel) (by decide +kernel) (by decide +kernel)), y_sr (r' := 197) h3 (by decide +kernel) (by decide +kernel) rfl (fun M4 h4 => ?_)⟩
  refine ⟨(h4.ob 104 5 (by decide +kernel) (by decide +kernel) (by decide +kernel)), ?_⟩
  refine y_methodAt (arr := 140) (v := 141) h4 (by decide +kernel) (by decide +kernel) (by decide +kernel) (h4.gr 130 104 10 140 (by decide +kernel) (by decide +kernel)) (by decide +kernel) (by decide +kernel) (by decide +kernel) (h4.gr 133 140 0 141 (by decide +kernel) (by decide +kernel)) ?_
  try dsimp only
  refine ⟨(h4.ob 201 10 (by decide +kernel) (by decide +kernel) (by decide +kernel)), y_sr (r' := 198) h4 (by decide +kernel) (by decide +kernel) rfl (fun M5 h5 => ?_)⟩
  exact hQ _ h5
theorem s_Frames_init_205 {L : Nat} {xs : Nat → Int32} {M0 : eM} {Q : eM → Prop} (h0 : y_I L xs 206 200 M0) (hQ : ∀ M, y_I L xs 220 214 M → Q M) : w_Frames_init 14 1415 205 M0 Q := by
  unfold w_Frames_init
  refine ⟨(by decide +kernel), ?_⟩
  refine ⟨(by decide +kernel), (by decide +kernel), y_new (b' := 207) h0 (by decide +kernel) rfl (fun M1 h1 => ?_)⟩
  rw [h0.1]
  refine ⟨(by decide +kernel), 1, 64, (by decide +kernel), (by decide +kernel), ?_⟩
  refine y_row (n := 64) (b' := 208) (r' := 201) h1 (by decide +kernel) (by decide +kernel) (by decide +kernel) (by decide +kernel) (by decide +kernel) (by decide +kernel) (by decide +kernel) (by decide +kernel) rfl rfl (fun M2 h2 => ?_)
  refine ⟨(h2.ob 205 1 (by decide +kernel) (by decide +kernel) (by decide +kernel)), y_sr (r' := 202) h2 (by decide +kernel) (by decide +kernel) rfl (fun M3 h3 => ?_)⟩
  refine ⟨(by decide +kernel), (by decide +kernel), y_new (b' := 209) h3 (by decide +kernel) rfl (fun M4 h4 => ?_)⟩
  rw [h3.1]
  refine ⟨(by decide +kernel), 1, 64, (by decide +kernel), (by decide +kernel), ?_⟩
  refine y_row (n := 64) (b' := 210) (r' := 203) h4 (by decide +kernel) (by decide +kernel) (by decide +kernel) (by decide +kernel) (by decide +kernel) (by decide +kernel) (by decide +kernel) (by decide +kernel) rfl rfl (fun M5 h5 => ?_)
  refine ⟨(h5.ob 205 1 (by decide +kernel) (by decide +kernel) (by decide +kernel)), y_sr (r' := 204) h5 (by decide +kernel) (by decide +kernel) rfl (fun M6 h6 => ?_)⟩
  refine ⟨(by decide +kernel), (by decide +kernel), y_new (b' := 211) h6 (by decide +kernel) rfl (fun M7 h7 => ?_)⟩
  rw [h6.1]
  refine ⟨(by decide +kernel), 1, 64, (by decide +kernel), (by decide +kernel), ?_⟩
  refine y_row (n := 64) (b' := 212) (r' := 205) h7 (by decide +kernel) (by decide +kernel) (by decide +kernel) (by decide +kernel) (by decide +kernel) (by decide +kernel) (by decide +kernel) (by decide +kernel) rfl rfl (fun M8 h8 => ?_)
  refine ⟨(h8.ob 205 1 (by decide +kernel) (by decide +kernel) (by decide +kernel)), y_sr (r' := 206) h8 (by decide +kernel) (by decide +kernel) rfl (fun M9 h9 => ?_)⟩
  refine ⟨(by decide +kernel), (by decide +kernel), y_new (b' := 213) h9 (by decide +kernel) rfl (fun M10 h10 => ?_)⟩
  rw [h9.1]
  refine ⟨(by decide +kernel), 1, 64, (by decide +kernel), (by decide +kernel), ?_⟩
  refine y_row (n := 64) (b' := 214) (r' := 207) h10 (by decide +kernel) (by decide +kernel) (by decide +kernel) (by decide +kernel) (by decide +kernel) (by decide +kernel) (by decide +kernel) (by decide +kernel) rfl rfl (fun M11 h11 => ?_)
  refine ⟨(h11.ob 205 1 (by decide +kernel) (by decide +kernel) (by decide +kernel)), y_sr (r' := 208) h11 (by decide +kernel) (by decide +kernel) rfl (fun M12 h12 => ?_)⟩
  refine ⟨(by decide +kernel), (by decide +kernel), y_new (b' := 215) h12 (by decide +kernel) rfl (fun M13 h13 => ?_)⟩
  rw [h12.1]
  refine ⟨(by decide +kernel), 1, 64, (by decide +kernel), (by decide +kernel), ?_⟩
  refine y_row (n := 64) (b' := 216) (r' := 209) h13 (by decide +kernel) (by decide +kernel) (by decide +kernel) (by decide +kernel) (by decide +kernel) (by decide +kernel) (by decide +kernel) (by decide +kernel) rfl rfl (fun M14 h14 => ?_)
  refine ⟨(h14.ob 205 1 (by decide +kernel) (by decide +kernel) (by decide +kernel)), y_sr (r' := 210) h14 (by decide +kernel) (by decide +kernel) rfl (fun M15 h15 => ?_)⟩
  refine ⟨(by decide +kernel), (by decide +kernel), y_new (b' := 217) h15 (by decide +kernel) rfl (fun M16 h16 => ?_)⟩
  rw [h15.1]
  refine ⟨(by decide +kernel), 1, 64, (by decide +kernel), (by decide +kernel), ?_⟩
  refine y_row (n := 64) (b' := 218) (r' := 211) h16 (by decide +kernel) (by decide +kernel) (by decide +kernel) (by decide +kernel) (by decide +kernel) (by decide +kernel) (by decide +kernel) (by decide +kernel) rfl rfl (fun M17 h17 => ?_)
  refine ⟨(h17.ob 205 1 (by decide +kernel) (by decide +kernel) (by decide +kernel)), y_sr (r' := 212) h17 (by decide +kernel) (by decide +kernel) rfl (fun M18 h18 => ?_)⟩
  refine ⟨(by decide +kernel), (by decide +kernel), y_new (b' := 219) h18 (by decide +kernel) rfl (fun M19 h19 => ?_)⟩
  rw [h18.1]
  refine ⟨(by decide +kernel), 1, 1024, (by decide +kernel), (by decide +kernel), ?_⟩
  refine y_row (n := 1024) (b' := 220) (r' := 213) h19 (by decide +kernel) (by decide +kernel) (by decide +kernel) (by decide +kernel) (by decide +kernel) (by decide +kernel) (by decide +kernel) (by decide +kernel) rfl rfl (fun M20 h20 => ?_)
  refine ⟨(h20.ob 205 1 (by decide +kernel) (by decide +kernel) (by decide +kernel)), y_sr (r' := 214) h20 (by decide +kernel) (by decide +kernel) rfl (fun M21 h21 => ?_)⟩
  exact hQ _ h21
theorem s_Heap_init_220 {L : Nat} {xs : Nat → Int32} {M0 : eM} {Q : eM → Prop} (h0 : y_I L xs 221 215 M0) (hQ : ∀ M, y_I L xs 225 219 M → Q M) : w_Heap_init 4 8004 220 M0 Q := by
  unfold w_Heap_init
  refine ⟨(by decide +kernel), ?_⟩
  refine ⟨(by decide +kernel), (by decide +kernel), y_new (b' := 222) h0 (by decide +kernel) rfl (fun M1 h1 => ?_)⟩
  rw [h0.1]
  refine ⟨(by decide +kernel), 1, 4001, (by decide +kernel), (by decide +kernel), ?_⟩
  refine y_row (n := 4001) (b' := 223) (r' := 216) h1 (by decide +kernel) (by decide +kernel) (by decide +kernel) (by decide +kernel) (by decide +kernel) (by decide +kernel) (by decide +kernel) (by decide +kernel) rfl rfl (fun M2 h2 => ?_)
  refine ⟨(h2.ob 220 2 (by decide +kernel) (by decide +kernel) (by decide +kernel)), y_sr (r' := 217) h2 (by decide +kernel) (by decide +kernel) rfl (fun M3 h3 => ?_)⟩
  refine ⟨(by decide +kernel), (by decide +kernel), y_new (b' := 224) h3 (by decide +kernel) rfl (fun M4 h4 => ?_)⟩
  rw [h3.1]
  refine ⟨(by decide +kernel), 1, 4001, (by decide +kernel), (by decide +kernel), ?_⟩
  refine y_row (n := 4001) (b' := 225) (r' := 218) h4 (by decide +kernel) (by decide +kernel) (by decide +kernel) (by decide +kernel) (by decide +kernel) (by decide +kernel) (by decide +kernel) (by decide +kernel) rfl rfl (fun M5 h5 => ?_)
  refine ⟨(h5.ob 220 2 (by decide +kernel) (by decide +kernel) (by decide +kernel)), y_sr (r' := 219) h5 (by decide +kernel) (by decide +kernel) rfl (fun M6 h6 => ?_)⟩
  exact hQ _ h6
theorem s_Tiers_init_225 {L : Nat} {xs : Nat → Int32} {M0 : eM} {Q : eM → Prop} (h0 : y_I L xs 226 220 M0) (hQ : ∀ M, y_I L xs 235 230 M → Q M) : w_Tiers_init 9 7866 225 9 M0 Q := by
  unfold w_Tiers_init
  refine ⟨(by decide +kernel), ?_⟩
  refine ⟨(h0.ob 225 9 (by decide +kernel) (by decide +kernel) (by decide +kernel)), y_sr (r' := 221) h0 (by decide +kernel) (by decide +kernel) rfl (fun M1 h1 => ?_)⟩
  refine ⟨(h1.ob 225 9 (by decide +kernel) (by decide +kernel) (by decide +kernel)), y_si h1 (by decide +kernel) (by decide +kernel) (fun M2 h2 => ?_)⟩
  refine ⟨(h2.ob 225 9 (by decide +kernel) (by decide +kernel) (by decide +kernel)), y_si h2 (by decide +kernel) (by decide +kernel) (fun M3 h3 => ?_)⟩
  refine ⟨(h3.ob 225 9 (by decide +kernel) (by decide +kernel) (by decide +kernel)), y_si h3 (by decide +kernel) (by decide +kernel) (fun M4 h4 => ?_)⟩
  refine ⟨(h4.ob 225 9 (by decide +kernel) (by decide +kernel) (by decide +kernel)), y_si h4 (by decide +kernel) (by decide +kernel) (fun M5 h5 => ?_)⟩
  refine ⟨(by decide +kernel), (by decide +kernel), y_new (b' := 227) h5 (by decide +kernel) rfl (fun M6 h6 => ?_)⟩
  rw [h5.1]
  refine ⟨(by decide +kernel), 1, 16, (by decide +kernel), (by decide +kernel), ?_⟩
  refine y_row (n := 16) (b' := 228) (r' := 222) h6 (by decide +kernel) (by decide +kernel) (by decide +kernel) (by decide +kernel) (by decide +kernel) (by decide +kernel) (by decide +kernel) (by decide +kernel) rfl rfl (fun M7 h7 => ?_)
  refine ⟨(h7.ob 225 9 (by decide +kernel) (by decide +kernel) (by decide +kernel)), y_sr (r' := 223) h7 (by decide +kernel) (by decide +kernel) rfl (fun M8 h8 => ?_)⟩
  refine ⟨(by decide +kernel), (by decide +kernel), y_new (b' := 229) h8 (by decide +kernel) rfl (fun M9 h9 => ?_)⟩
  rw [h8.1]
  refine ⟨(by decide +kernel), 1, 6000, (by decide +kernel), (by decide +kernel), ?_⟩
  refine y_row (n := 6000) (b' := 230) (r' := 224) h9 (by decide +kernel) (by decide +kernel) (by decide +kernel) (by decide +kernel) (by decide +kernel) (by decide +kernel) (by decide +kernel) (by decide +kernel) rfl rfl (fun M10 h10 => ?_)
  refine ⟨(h10.ob 225 9 (by decide +kernel) (by decide +kernel) (by decide +kernel)), y_sr (r' := 225) h10 (by decide +kernel) (by decide +kernel) rfl (fun M11 h11 => ?_)⟩
  refine ⟨(by decide +kernel), (by decide +kernel), (by decide +kernel), (by decide +kernel), y_new (b' := 231) h11 (by decide +kernel) rfl (fun M12 h12 => ?_)⟩
  rw [h11.1]
  refine ⟨(h12.ob 225 9 (by decide +kernel) (by decide +kernel) (by decide +kernel)), y_sr (r' := 226) h12 (by decide +kernel) (by decide +kernel) rfl (fun M13 h13 => ?_)⟩
  refine ⟨(by decide +kernel), (by decide +kernel), y_new (b' := 232) h13 (by decide +kernel) rfl (fun M14 h14 => ?_)⟩
  rw [h13.1]
  refine ⟨(by decide +kernel), 1, 16, (by decide +kernel), (by decide +kernel), ?_⟩
  refine y_row (n := 16) (b' := 233) (r' := 227) h14 (by decide +kernel) (by decide +kernel) (by decide +kernel) (by decide +kernel) (by decide +kernel) (by decide +kernel) (by decide +kernel) (by decide +kernel) rfl rfl (fun M15 h15 => ?_)
  refine ⟨(h15.ob 225 9 (by decide +kernel) (by decide +kernel) (by decide +kernel)), y_sr (r' := 228) h15 (by decide +kernel) (by decide +kernel) rfl (fun M16 h16 => ?_)⟩
  refine ⟨(by decide +kernel), (by decide +kernel), y_new (b' := 234) h16 (by decide +kernel) rfl (fun M17 h17 => ?_)⟩
  rw [h16.1]
  refine ⟨(by decide +kernel), 1, 1800, (by decide +kernel), (by decide +kernel), ?_⟩
  refine y_row (n := 1800) (b' := 235) (r' := 229) h17 (by decide +kernel) (by decide +kernel) (by decide +kernel) (by decide +kernel) (by decide +kernel) (by decide +kernel) (by decide +kernel) (by decide +kernel) rfl rfl (fun M18 h18 => ?_)
  refine ⟨(h18.ob 225 9 (by decide +kernel) (by decide +kernel) (by decide +kernel)), y_sr (r' := 230) h18 (by decide +kernel) (by decide +kernel) rfl (fun M19 h19 => ?_)⟩
  exact hQ _ h19
theorem s_Machine_init_204 {L : Nat} {xs : Nat → Int32} {M0 : eM} {Q : eM → Prop} (h0 : y_I L xs 205 199 M0) (hQ : ∀ M, y_I L xs 241 237 M → Q M) : w_Machine_init 36 19414 204 9 M0 Q := by
  unfold w_Machine_init
  refine ⟨(by decide +kernel), ?_⟩
  refine ⟨(h0.ob 204 3 (by decide +kernel) (by decide +kernel) (by decide +kernel)), y_sr (r' := 200) h0 (by decide +kernel) (by decide +kernel) rfl (fun M1 h1 => ?_)⟩
  refine ⟨(by decide +kernel), (by decide +kernel), y_new (b' := 206) h1 (by decide +kernel) rfl (fun M2 h2 => ?_)⟩
  rw [h1.1]
  refine ⟨(by decide +kernel), 14, 1415, (by decide +kernel), (by decide +kernel), ?_⟩
  refine s_Frames_init_205 h2 (fun M3 h3 => ?_)
  refine ⟨(h3.ob 204 3 (by decide +kernel) (by decide +kernel) (by decide +kernel)), y_sr (r' := 215) h3 (by decide +kernel) (by decide +kernel) rfl (fun M4 h4 => ?_)⟩
  refine ⟨(by decide +kernel), (by decide +kernel), y_new (b' := 221) h4 (by decide +kernel) rfl (fun M5 h5 => ?_)⟩
  rw [h4.1]
  refine ⟨(by decide +kernel), 4, 8004, (by decide +kernel), (by decide +kernel), ?_⟩
  refine s_Heap_init_220 h5 (fun M6 h6 => ?_)
  refine ⟨(h6.ob 204 3 (by decide +kernel) (by decide +kernel) (by decide +kernel)), y_sr (r' := 220) h6 (by decide +kernel) (by decide +kernel) rfl (fun M7 h7 => ?_)⟩
  refine ⟨(by decide +kernel), (by decide +kernel), y_new (b' := 226) h7 (by decide +kernel) rfl (fun M8 h8 => ?_)⟩
  rw [h7.1]
  refine ⟨(by decide +kernel), 9, 7866, (by decide +kernel), (by decide +kernel), ?_⟩
  refine s_Tiers_init_225 h8 (fun M9 h9 => ?_)
  refine ⟨(h9.ob 204 3 (by decide +kernel) (by decide +kernel) (by decide +kernel)), y_sr (r' := 231) h9 (by decide +kernel) (by decide +kernel) rfl (fun M10 h10 => ?_)⟩
  refine ⟨(by decide +kernel), (by decide +kernel), y_new (b' := 236) h10 (by decide +kernel) rfl (fun M11 h11 => ?_)⟩
  rw [h10.1]
  refine ⟨(by decide +kernel), 1, 1500, (by decide +kernel), (by decide +kernel), ?_⟩
  refine y_row (n := 1500) (b' := 237) (r' := 232) h11 (by decide +kernel) (by decide +kernel) (by decide +kernel) (by decide +kernel) (by decide +kernel) (by decide +kernel) (by decide +kernel) (by decide +kernel) rfl rfl (fun M12 h12 => ?_)
  refine ⟨(h12.ob 204 3 (by decide +kernel) (by decide +kernel) (by decide +kernel)), y_sr (r' := 233) h12 (by decide +kernel) (by decide +kernel) rfl (fun M13 h13 => ?_)⟩
  refine ⟨(by decide +kernel), (by decide +kernel), y_new (b' := 238) h13 (by decide +kernel) rfl (fun M14 h14 => ?_)⟩
  rw [h13.1]
  refine ⟨(by decide +kernel), 1, 500, (by decide +kernel), (by decide +kernel), ?_⟩
  refine y_row (n := 500) (b' := 239) (r' := 234) h14 (by decide +kernel) (by decide +kernel) (by decide +kernel) (by decide +kernel) (by decide +kernel) (by decide +kernel) (by decide +kernel) (by decide +kernel) rfl rfl (fun M15 h15 => ?_)
  refine ⟨(h15.ob 204 3 (by decide +kernel) (by decide +kernel) (by decide +kernel)), y_sr (r' := 235) h15 (by decide +kernel) (by decide +kernel) rfl (fun M16 h16 => ?_)⟩
  refine ⟨(by decide +kernel), (by decide +kernel), y_new (b' := 240) h16 (by decide +kernel) rfl (fun M17 h17 => ?_)⟩
  rw [h16.1]
  refine ⟨(by decide +kernel), 1, 100, (by decide +kernel), (by decide +kernel), ?_⟩
  refine y_row (n := 100) (b' := 241) (r' := 236) h17 (by decide +kernel) (by decide +kernel) (by decide +kernel) (by decide +kernel) (by decide +kernel) (by decide +kernel) (by decide +kernel) (by decide +kernel) rfl rfl (fun M18 h18 => ?_)
  refine ⟨(h18.ob 204 3 (by decide +kernel) (by decide +kernel) (by decide +kernel)), y_sr (r' := 237) h18 (by decide +kernel) (by decide +kernel) rfl (fun M19 h19 => ?_)⟩
  refine ⟨(h19.ob 204 3 (by decide +kernel) (by decide +kernel) (by decide +kernel)), ?_⟩
  rw [h19.gr 230 204 2 225 (by decide +kernel) (by decide +kernel)]
  refine ⟨(h19.ob 225 9 (by decide +kernel) (by decide +kernel) (by decide +kernel)), ?_⟩
  refine y_clear 222 227 221 226 (c1 := 226) (c2 := 231) (a1 := 227) (a2 := 232) h19 (by decide +kernel) (by decide +kernel) (by decide +kernel) (by decide +kernel) (by decide +kernel) (by decide +kernel) (by decide +kernel) (by decide +kernel) (by decide +kernel) (by decide +kernel) (by decide +kernel) (by decide +kernel) (by decide +kernel) (by decide +kernel) (by decide +kernel) (by decide +kernel) (by decide +kernel) (by decide +kernel) (by decide +kernel) (by decide +kernel) (by decide +kernel) (by decide +kernel) (by decide +kernel) (fun j => rfl) (fun j => rfl) (fun M20 h20 => ?_)
  exact hQ _ h20
theorem s_Mill_init_8 {L : Nat} {xs : Nat → Int32} {M0 : eM} {Q : eM → Prop} (h0 : y_I L xs 9 0 M0) (hQ : ∀ M, y_I L xs 241 238 M → Q M) : w_Mill_init 232 39929 8 M0 Q := by
  unfold w_Mill_init
  refine ⟨(by decide +kernel), ?_⟩
  refine ⟨(by decide +kernel), (by decide +kernel), y_new (b' := 10) h0 (by decide +kernel) rfl (fun M1 h1 => ?_)⟩
  rw [h0.1]
  refine ⟨(by decide +kernel), 94, 9473, (by decide +kernel), (by decide +kernel), ?_⟩
  refine s_Program_init_9 h1 (fun M2 h2 => ?_)
  refine ⟨(h2.ob 8 11 (by decide +kernel) (by decide +kernel) (by decide +kernel)), y_sr (r' := 95) h2 (by decide +kernel) (by decide +kernel) rfl (fun M3 h3 => ?_)⟩
  refine ⟨(by decide +kernel), (by decide +kernel), y_new (b' := 105) h3 (by decide +kernel) rfl (fun M4 h4 => ?_)⟩
  rw [h3.1]
  refine ⟨(by decide +kernel), 94, 9473, (by decide +kernel), (by decide +kernel), ?_⟩
  refine s_Program_init_104 h4 (fun M5 h5 => ?_)
  refine ⟨(h5.ob 8 11 (by decide +kernel) (by decide +kernel) (by decide +kernel)), y_sr (r' := 190) h5 (by decide +kernel) (by decide +kernel) rfl (fun M6 h6 => ?_)⟩
  refine ⟨(by decide +kernel), (by decide +kernel), y_new (b' := 200) h6 (by decide +kernel) rfl (fun M7 h7 => ?_)⟩
  rw [h6.1]
  refine ⟨(h7.ob 8 11 (by decide +kernel) (by decide +kernel) (by decide +kernel)), ?_⟩
  rw [h7.gr 189 8 6 104 (by decide +kernel) (by decide +kernel)]
  refine ⟨(by decide +kernel), ?_⟩
  refine s_Reader_init_199 h7 (fun M8 h8 => ?_)
  refine ⟨(h8.ob 8 11 (by decide +kernel) (by decide +kernel) (by decide +kernel)), y_sr (r' := 192) h8 (by decide +kernel) (by decide +kernel) rfl (fun M9 h9 => ?_)⟩
  refine ⟨(by decide +kernel), (by decide +kernel), y_new (b' := 201) h9 (by decide +kernel) rfl (fun M10 h10 => ?_)⟩
  rw [h9.1]
  refine ⟨(h10.ob 8 11 (by decide +kernel) (by decide +kernel) (by decide +kernel)), ?_⟩
  rw [h10.gr 189 8 6 104 (by decide +kernel) (by decide +kernel)]
  refine ⟨(by decide +kernel), ?_⟩
  refine s_Decoder_init_200 h10 (fun M11 h11 => ?_)
  refine ⟨(h11.ob 8 11 (by decide +kernel) (by decide +kernel) (by decide +kernel)), y_sr (r' := 194) h11 (by decide +kernel) (by decide +kernel) rfl (fun M12 h12 => ?_)⟩
  refine ⟨(by decide +kernel), (by decide +kernel), y_new (b' := 202) h12 (by decide +kernel) rfl (fun M13 h13 => ?_)⟩
  rw [h12.1]
  refine ⟨(h13.ob 8 11 (by decide +kernel) (by decide +kernel) (by decide +kernel)), ?_⟩
  rw [h13.gr 189 8 6 104 (by decide +kernel) (by decide +kernel)]
  refine ⟨(by decide +kernel), 2, 1501, (by decide +kernel), (by decide +kernel), ?_⟩
  refine s_Verifier_init_201 h13 (fun M14 h14 => ?_)
  refine ⟨(h14.ob 8 11 (by decide +kernel) (by decide +kernel) (by decide +kernel)), y_sr (r' := 199) h14 (by decide +kernel) (by decide +kernel) rfl (fun M15 h15 => ?_)⟩
  refine ⟨(by decide +kernel), (by decide +kernel), y_new (b' := 205) h15 (by decide +kernel) rfl (fun M16 h16 => ?_)⟩
  rw [h15.1]
  refine ⟨(h16.ob 8 11 (by decide +kernel) (by decide +kernel) (by decide +kernel)), ?_⟩
  rw [h16.gr 94 8 5 9 (by decide +kernel) (by decide +kernel)]
  refine ⟨(by decide +kernel), 36, 19414, (by decide +kernel), (by decide +kernel), ?_⟩
  refine s_Machine_init_204 h16 (fun M17 h17 => ?_)
  refine ⟨(h17.ob 8 11 (by decide +kernel) (by decide +kernel) (by decide +kernel)), y_sr (r' := 238) h17 (by decide +kernel) (by decide +kernel) rfl (fun M18 h18 => ?_)⟩
  refine ⟨(h18.ob 8 11 (by decide +kernel) (by decide +kernel) (by decide +kernel)), y_si h18 (by decide +kernel) (by decide +kernel) (fun M19 h19 => ?_)⟩
  exact hQ _ h19
theorem s_Mod_init_241 {L : Nat} {xs : Nat → Int32} {M0 : eM} {Q : eM → Prop} (h0 : y_I L xs 242 238 M0) (hQ : ∀ M, y_I L xs 291 287 M → Q M) : w_Mod_init 49 257808 241 M0 Q := by
  unfold w_Mod_init
  refine ⟨(by decide +kernel), ?_⟩
  refine ⟨(by decide +kernel), (by decide +kernel), (by decide +kernel), (by decide +kernel), y_new (b' := 243) h0 (by decide +kernel) rfl (fun M1 h1 => ?_)⟩
  rw [h0.1]
  refine ⟨(h1.ob 241 12 (by decide +kernel) (by decide +kernel) (by decide +kernel)), y_sr (r' := 239) h1 (by decide +kernel) (by decide +kernel) rfl (fun M2 h2 => ?_)⟩
  refine ⟨(by decide +kernel), (by decide +kernel), (by decide +kernel), (by decide +kernel), y_new (b' := 244) h2 (by decide +kernel) rfl (fun M3 h3 => ?_)⟩
  rw [h2.1]
  refine ⟨(h3.ob 241 12 (by decide +kernel) (by decide +kernel) (by decide +kernel)), y_sr (r' := 240) h3 (by decide +kernel) (by decide +kernel) rfl (fun M4 h4 => ?_)⟩
  refine ⟨(by decide +kernel), (by decide +kernel), (by decide +kernel), (by decide +kernel), y_new (b' := 245) h4 (by decide +kernel) rfl (fun M5 h5 => ?_)⟩
  rw [h4.1]
  refine ⟨(h5.ob 241 12 (by decide +kernel) (by decide +kernel) (by decide +kernel)), y_sr (r' := 241) h5 (by decide +kernel) (by decide +kernel) rfl (fun M6 h6 => ?_)⟩
  refine ⟨(by decide +kernel), (by decide +kernel), (by decide +kernel), (by decide +kernel), y_new (b' := 246) h6 (by decide +kernel) rfl (fun M7 h7 => ?_)⟩
  rw [h6.1]
  refine ⟨(h7.ob 241 12 (by decide +kernel) (by decide +kernel) (by decide +kernel)), y_sr (r' := 242) h7 (by decide +kernel) (by decide +kernel) rfl (fun M8 h8 => ?_)⟩
  refine ⟨(by decide +kernel), (by decide +kernel), (by decide +kernel), (by decide +kernel), y_new (b' := 247) h8 (by decide +kernel) rfl (fun M9 h9 => ?_)⟩
  rw [h8.1]
  refine ⟨(h9.ob 241 12 (by decide +kernel) (by decide +kernel) (by decide +kernel)), y_sr (r' := 243) h9 (by decide +kernel) (by decide +kernel) rfl (fun M10 h10 => ?_)⟩
  refine ⟨(by decide +kernel), (by decide +kernel), (by decide +kernel), (by decide +kernel), y_new (b' := 248) h10 (by decide +kernel) rfl (fun M11 h11 => ?_)⟩
  rw [h10.1]
  refine ⟨(h11.ob 241 12 (by decide +kernel) (by decide +kernel) (by decide +kernel)), y_sr (r' := 244) h11 (by decide +kernel) (by decide +kernel) rfl (fun M12 h12 => ?_)⟩
  refine ⟨(by decide +kernel), (by decide +kernel), (by decide +kernel), (by decide +kernel), y_new (b' := 249) h12 (by decide +kernel) rfl (fun M13 h13 => ?_)⟩
  rw [h12.1]
  refine ⟨(h13.ob 241 12 (by decide +kernel) (by decide +kernel) (by decide +kernel)), y_sr (r' := 245) h13 (by decide +kernel) (by decide +kernel) rfl (fun M14 h14 => ?_)⟩
  refine ⟨(by decide +kernel), (by decide +kernel), (by decide +kernel), (by decide +kernel), y_new (b' := 250) h14 (by decide +kernel) rfl (fun M15 h15 => ?_)⟩
  rw [h14.1]
  refine ⟨(h15.ob 241 12 (by decide +kernel) (by decide +kernel) (by decide +kernel)), y_sr (r' := 246) h15 (by decide +kernel) (by decide +kernel) rfl (fun M16 h16 => ?_)⟩
  refine ⟨(by decide +kernel), (by decide +kernel), (by decide +kernel), (by decide +kernel), y_new (b' := 251) h16 (by decide +kernel) rfl (fun M17 h17 => ?_)⟩
  rw [h16.1]
  refine ⟨(h17.ob 241 12 (by decide +kernel) (by decide +kernel) (by decide +kernel)), y_sr (r' := 247) h17 (by decide +kernel) (by decide +kernel) rfl (fun M18 h18 => ?_)⟩
  refine ⟨(by decide +kernel), (by decide +kernel), (by decide +kernel), (by decide +kernel), y_new (b' := 252) h18 (by decide +kernel) rfl (fun M19 h19 => ?_)⟩
  rw [h18.1]
  refine ⟨(h19.ob 241 12 (by decide +kernel) (by decide +kernel) (by decide +kernel)), y_sr (r' := 248) h19 (by decide +kernel) (by decide +kernel) rfl (fun M20 h20 => ?_)⟩
  refine ⟨(by decide +kernel), (by decide +kernel), (by decide +kernel), (by decide +kernel), y_new (b' := 253) h20 (by decide +kernel) rfl (fun M21 h21 => ?_)⟩
  rw [h20.1]
  refine ⟨(h21.ob 241 12 (by decide +kernel) (by decide +kernel) (by decide +kernel)), y_sr (r' := 249) h21 (by decide +kernel) (by decide +kernel) rfl (fun M22 h22 => ?_)⟩
  refine ⟨(by decide +kernel), (by decide +kernel), (by decide +kernel), (by decide +kernel), y_new (b' := 254) h22 (by decide +kernel) rfl (fun M23 h23 => ?_)⟩
  rw [h22.1]
  refine ⟨(h23.ob 241 12 (by decide +kernel) (by decide +kernel) (by decide +kernel)), y_sr (r' := 250) h23 (by decide +kernel) (by decide +kernel) rfl (fun M24 h24 => ?_)⟩
  refine ⟨(by decide +kernel), (by decide +kernel), (by decide +kernel), (by decide +kernel), y_new (b' := 255) h24 (by decide +kernel) rfl (fun M25 h25 => ?_)⟩
  rw [h24.1]
  refine ⟨(h25.ob 241 12 (by decide +kernel) (by decide +kernel) (by decide +kernel)), y_sr (r' := 251) h25 (by decide +kernel) (by decide +kernel) rfl (fun M26 h26 => ?_)⟩
  refine ⟨(by decide +kernel), (by decide +kernel), (by decide +kernel), (by decide +kernel), y_new (b' := 256) h26 (by decide +kernel) rfl (fun M27 h27 => ?_)⟩
  rw [h26.1]
  refine ⟨(h27.ob 241 12 (by decide +kernel) (by decide +kernel) (by decide +kernel)), y_sr (r' := 252) h27 (by decide +kernel) (by decide +kernel) rfl (fun M28 h28 => ?_)⟩
  refine ⟨(by decide +kernel), (by decide +kernel), (by decide +kernel), (by decide +kernel), y_new (b' := 257) h28 (by decide +kernel) rfl (fun M29 h29 => ?_)⟩
  rw [h28.1]
  refine ⟨(h29.ob 241 12 (by decide +kernel) (by decide +kernel) (by decide +kernel)), y_sr (r' := 253) h29 (by decide +kernel) (by decide +kernel) rfl (fun M30 h30 => ?_)⟩
  refine ⟨(by decide +kernel), (by decide +kernel), (by decide +kernel), (by decide +kernel), y_new (b' := 258) h30 (by decide +kernel) rfl (fun M31 h31 => ?_)⟩
  rw [h30.1]
  refine ⟨(h31.ob 241 12 (by decide +kernel) (by decide +kernel) (by decide +kernel)), y_sr (r' := 254) h31 (by decide +kernel) (by decide +kernel) rfl (fun M32 h32 => ?_)⟩
  refine ⟨(by decide +kernel), (by decide +kernel), (by decide +kernel), (by decide +kernel), y_new (b' := 259) h32 (by decide +kernel) rfl (fun M33 h33 => ?_)⟩
  rw [h32.1]
  refine ⟨(h33.ob 241 12 (by decide +kernel) (by decide +kernel) (by decide +kernel)), y_sr (r' := 255) h33 (by decide +kernel) (by decide +kernel) rfl (fun M34 h34 => ?_)⟩
  refine ⟨(by decide +kernel), (by decide +kernel), (by decide +kernel), (by decide +kernel), y_new (b' := 260) h34 (by decide +kernel) rfl (fun M35 h35 => ?_)⟩
  rw [h34.1]
  refine ⟨(h35.ob 241 12 (by decide +kernel) (by decide +kernel) (by decide +kernel)), y_sr (r' := 256) h35 (by decide +kernel) (by decide +kernel) rfl (fun M36 h36 => ?_)⟩
  refine ⟨(by decide +kernel), (by decide +kernel), (by decide +kernel), (by decide +kernel), y_new (b' := 261) h36 (by decide +kernel) rfl (fun M37 h37 => ?_)⟩
  rw [h36.1]
  refine ⟨(h37.ob 241 12 (by decide +kernel) (by decide +kernel) (by decide +kernel)), y_sr (r' := 257) h37 (by decide +kernel) (by decide +kernel) rfl (fun M38 h38 => ?_)⟩
  refine ⟨(by decide +kernel), (by decide +kernel), (by decide +kernel), (by decide +kernel), y_new (b' := 262) h38 (by decide +kernel) rfl (fun M39 h39 => ?_)⟩
  rw [h38.1]
  refine ⟨(h39.ob 241 12 (by decide +kernel) (by decide +kernel) (by decide +kernel)), y_sr (r' := 258) h39 (by decide +kernel) (by decide +kernel) rfl (fun M40 h40 => ?_)⟩
  refine ⟨(by decide +kernel), (by decide +kernel), (by decide +kernel), (by decide +kernel), y_new (b' := 263) h40 (by decide +kernel) rfl (fun M41 h41 => ?_)⟩
  rw [h40.1]
  refine ⟨(h41.ob 241 12 (by decide +kernel) (by decide +kernel) (by decide +kernel)), y_sr (r' := 259) h41 (by decide +kernel) (by decide +kernel) rfl (fun M42 h42 => ?_)⟩
  refine ⟨(h42.ob 241 12 (by decide +kernel) (by decide +kernel) (by decide +kernel)), y_si h42 (by decide +kernel) (by decide +kernel) (fun M43 h43 => ?_)⟩
  refine ⟨(h43.ob 241 12 (by decide +kernel) (by decide +kernel) (by decide +kernel)), y_si h43 (by decide +kernel) (by decide +kernel) (fun M44 h44 => ?_)⟩
  refine ⟨(h44.ob 241 12 (by decide +kernel) (by decide +kernel) (by decide +kernel)), y_si h44 (by decide +kernel) (by decide +kernel) (fun M45 h45 => ?_)⟩
  refine ⟨(h45.ob 241 12 (by decide +kernel) (by decide +kernel) (by decide +kernel)), y_si h45 (by decide +kernel) (by decide +kernel) (fun M46 h46 => ?_)⟩
  refine ⟨(h46.ob 241 12 (by decide +kernel) (by decide +kernel) (by decide +kernel)), y_si h46 (by decide +kernel) (by decide +kernel) (fun M47 h47 => ?_)⟩
  refine ⟨(by decide +kernel), (by decide +kernel), (by decide +kernel), (by decide +kernel), y_new (b' := 264) h47 (by decide +kernel) rfl (fun M48 h48 => ?_)⟩
  rw [h47.1]
  refine ⟨(h48.ob 241 12 (by decide +kernel) (by decide +kernel) (by decide +kernel)), y_sr (r' := 260) h48 (by decide +kernel) (by decide +kernel) rfl (fun M49 h49 => ?_)⟩
  refine ⟨(by decide +kernel), (by decide +kernel), (by decide +kernel), (by decide +kernel), y_new (b' := 265) h49 (by decide +kernel) rfl (fun M50 h50 => ?_)⟩
  rw [h49.1]
  refine ⟨(h50.ob 241 12 (by decide +kernel) (by decide +kernel) (by decide +kernel)), y_sr (r' := 261) h50 (by decide +kernel) (by decide +kernel) rfl (fun M51 h51 => ?_)⟩
  refine ⟨(by decide +kernel), (by decide +kernel), (by decide +kernel), (by decide +kernel), y_new (b' := 266) h51 (by decide +kernel) rfl (fun M52 h52 => ?_)⟩
  rw [h51.1]
  refine ⟨(h52.ob 241 12 (by decide +kernel) (by decide +kernel) (by decide +kernel)), y_sr (r' := 262) h52 (by decide +kernel) (by decide +kernel) rfl (fun M53 h53 => ?_)⟩
  refine ⟨(by decide +kernel), (by decide +kernel), (by decide +kernel), (by decide +kernel), y_new (b' := 267) h53 (by decide +kernel) rfl (fun M54 h54 => ?_)⟩
  rw [h53.1]
  refine ⟨(h54.ob 241 12 (by decide +kernel) (by decide +kernel) (by decide +kernel)), y_sr (r' := 263) h54 (by decide +kernel) (by decide +kernel) rfl (fun M55 h55 => ?_)⟩
  refine ⟨(by decide +kernel), (by decide +kernel), (by decide +kernel), (by decide +kernel), y_new (b' := 268) h55 (by decide +kernel) rfl (fun M56 h56 => ?_)⟩
  rw [h55.1]
  refine ⟨(h56.ob 241 12 (by decide +kernel) (by decide +kernel) (by decide +kernel)), y_sr (r' := 264) h56 (by decide +kernel) (by decide +kernel) rfl (fun M57 h57 => ?_)⟩
  refine ⟨(by decide +kernel), (by decide +kernel), (by decide +kernel), (by decide +kernel), y_new (b' := 269) h57 (by decide +kernel) rfl (fun M58 h58 => ?_)⟩
  rw [h57.1]
  refine ⟨(h58.ob 241 12 (by decide +kernel) (by decide +kernel) (by decide +kernel)), y_sr (r' := 265) h58 (by decide +kernel) (by decide +kernel) rfl (fun M59 h59 => ?_)⟩
  refine ⟨(by decide +kernel), (by decide +kernel), (by decide +kernel), (by decide +kernel), y_new (b' := 270) h59 (by decide +kernel) rfl (fun M60 h60 => ?_)⟩
  rw [h59.1]
  refine ⟨(h60.ob 241 12 (by decide +kernel) (by decide +kernel) (by decide +kernel)), y_sr (r' := 266) h60 (by decide +kernel) (by decide +kernel) rfl (fun M61 h61 => ?_)⟩
  refine ⟨(by decide +kernel), (by decide +kernel), (by decide +kernel), (by decide +kernel), y_new (b' := 271) h61 (by decide +kernel) rfl (fun M62 h62 => ?_)⟩
  rw [h61.1]
  refine ⟨(h62.ob 241 12 (by decide +kernel) (by decide +kernel) (by decide +kernel)), y_sr (r' := 267) h62 (by decide +kernel) (by decide +kernel) rfl (fun M63 h63 => ?_)⟩
  refine ⟨(by decide +kernel), (by decide +kernel), (by decide +kernel), (by decide +kernel), y_new (b' := 272) h63 (by decide +kernel) rfl (fun M64 h64 => ?_)⟩
  rw [h63.1]
  refine ⟨(h64.ob 241 12 (by decide +kernel) (by decide +kernel) (by decide +kernel)), y_sr (r' := 268) h64 (by decide +kernel) (by decide +kernel) rfl (fun M65 h65 => ?_)⟩
  refine ⟨(by decide +kernel), (by decide +kernel), (by decide +kernel), (by decide +kernel), y_new (b' := 273) h65 (by decide +kernel) rfl (fun M66 h66 => ?_)⟩
  rw [h65.1]
  refine ⟨(h66.ob 241 12 (by decide +kernel) (by decide +kernel) (by decide +kernel)), y_sr (r' := 269) h66 (by decide +kernel) (by decide +kernel) rfl (fun M67 h67 => ?_)⟩
  refine ⟨(by decide +kernel), (by decide +kernel), (by decide +kernel), (by decide +kernel), y_new (b' := 274) h67 (by decide +kernel) rfl (fun M68 h68 => ?_)⟩
  rw [h67.1]
  refine ⟨(h68.ob 241 12 (by decide +kernel) (by decide +kernel) (by decide +kernel)), y_sr (r' := 270) h68 (by decide +kernel) (by decide +kernel) rfl (fun M69 h69 => ?_)⟩
  refine ⟨(by decide +kernel), (by decide +kernel), (by decide +kernel), (by decide +kernel), y_new (b' := 275) h69 (by decide +kernel) rfl (fun M70 h70 => ?_)⟩
  rw [h69.1]
  refine ⟨(h70.ob 241 12 (by decide +kernel) (by decide +kernel) (by decide +kernel)), y_sr (r' := 271) h70 (by decide +kernel) (by decide +kernel) rfl (fun M71 h71 => ?_)⟩
  refine ⟨(by decide +kernel), (by decide +kernel), (by decide +kernel), (by decide +kernel), y_new (b' := 276) h71 (by decide +kernel) rfl (fun M72 h72 => ?_)⟩
  rw [h71.1]
  refine ⟨(h72.ob 241 12 (by decide +kernel) (by decide +kernel) (by decide +kernel)), y_sr (r' := 272) h72 (by decide +kernel) (by decide +kernel) rfl (fun M73 h73 => ?_)⟩
  refine ⟨(by decide +kernel), (by decide +kernel), (by decide +kernel), (by decide +kernel), y_new (b' := 277) h73 (by decide +kernel) rfl (fun M74 h74 => ?_)⟩
  rw [h73.1]
  refine ⟨(h74.ob 241 12 (by decide +kernel) (by decide +kernel) (by decide +kernel)), y_sr (r' := 273) h74 (by decide +kernel) (by decide +kernel) rfl (fun M75 h75 => ?_)⟩
  refine ⟨(by decide +kernel), (by decide +kernel), (by decide +kernel), (by decide +kernel), y_new (b' := 278) h75 (by decide +kernel) rfl (fun M76 h76 => ?_)⟩
  rw [h75.1]
  refine ⟨(h76.ob 241 12 (by decide +kernel) (by decide +kernel) (by decide +kernel)), y_sr (r' := 274) h76 (by decide +kernel) (by decide +kernel) rfl (fun M77 h77 => ?_)⟩
  refine ⟨(by decide +kernel), (by decide +kernel), (by decide +kernel), (by decide +kernel), y_new (b' := 279) h77 (by decide +kernel) rfl (fun M78 h78 => ?_)⟩
  rw [h77.1]
  refine ⟨(h78.ob 241 12 (by decide +kernel) (by decide +kernel) (by decide +kernel)), y_sr (r' := 275) h78 (by decide +kernel) (by decide +kernel) rfl (fun M79 h79 => ?_)⟩
  refine ⟨(by decide +kernel), (by decide +kernel), (by decide +kernel), (by decide +kernel), y_new (b' := 280) h79 (by decide +kernel) rfl (fun M80 h80 => ?_)⟩
  rw [h79.1]
  refine ⟨(h80.ob 241 12 (by decide +kernel) (by decide +kernel) (by decide +kernel)), y_sr (r' := 276) h80 (by decide +kernel) (by decide +kernel) rfl (fun M81 h81 => ?_)⟩
  refine ⟨(by decide +kernel), (by decide +kernel), (by decide +kernel), (by decide +kernel), y_new (b' := 281) h81 (by decide +kernel) rfl (fun M82 h82 => ?_)⟩
  rw [h81.1]
  refine ⟨(h82.ob 241 12 (by decide +kernel) (by decide +kernel) (by decide +kernel)), y_sr (r' := 277) h82 (by decide +kernel) (by decide +kernel) rfl (fun M83 h83 => ?_)⟩
  refine ⟨(by decide +kernel), (by decide +kernel), (by decide +kernel), (by decide +kernel), y_new (b' := 282) h83 (by decide +kernel) rfl (fun M84 h84 => ?_)⟩
  rw [h83.1]
  refine ⟨(h84.ob 241 12 (by decide +kernel) (by decide +kernel) (by decide +kernel)), y_sr (r' := 278) h84 (by decide +kernel) (by decide +kernel) rfl (fun M85 h85 => ?_)⟩
  refine ⟨(by decide +kernel), (by decide +kernel), (by decide +kernel), (by decide +kernel), y_new (b' := 283) h85 (by decide +kernel) rfl (fun M86 h86 => ?_)⟩
  rw [h85.1]
  refine ⟨(h86.ob 241 12 (by decide +kernel) (by decide +kernel) (by decide +kernel)), y_sr (r' := 279) h86 (by decide +kernel) (by decide +kernel) rfl (fun M87 h87 => ?_)⟩
  refine ⟨(by decide +kernel), (by decide +kernel), (by decide +kernel), (by decide +kernel), y_new (b' := 284) h87 (by decide +kernel) rfl (fun M88 h88 => ?_)⟩
  rw [h87.1]
  refine ⟨(h88.ob 241 12 (by decide +kernel) (by decide +kernel) (by decide +kernel)), y_sr (r' := 280) h88 (by decide +kernel) (by decide +kernel) rfl (fun M89 h89 => ?_)⟩
  refine ⟨(by decide +kernel), (by decide +kernel), (by decide +kernel), (by decide +kernel), y_new (b' := 285) h89 (by decide +kernel) rfl (fun M90 h90 => ?_)⟩
  rw [h89.1]
  refine ⟨(h90.ob 241 12 (by decide +kernel) (by decide +kernel) (by decide +kernel)), y_sr (r' := 281) h90 (by decide +kernel) (by decide +kernel) rfl (fun M91 h91 => ?_)⟩
  refine ⟨(by decide +kernel), (by decide +kernel), (by decide +kernel), (by decide +kernel), y_new (b' := 286) h91 (by decide +kernel) rfl (fun M92 h92 => ?_)⟩
  rw [h91.1]
  refine ⟨(h92.ob 241 12 (by decide +kernel) (by decide +kernel) (by decide +kernel)), y_sr (r' := 282) h92 (by decide +kernel) (by decide +kernel) rfl (fun M93 h93 => ?_)⟩
  refine ⟨(by decide +kernel), (by decide +kernel), (by decide +kernel), (by decide +kernel), y_new (b' := 287) h93 (by decide +kernel) rfl (fun M94 h94 => ?_)⟩
  rw [h93.1]
  refine ⟨(h94.ob 241 12 (by decide +kernel) (by decide +kernel) (by decide +kernel)), y_sr (r' := 283) h94 (by decide +kernel) (by decide +kernel) rfl (fun M95 h95 => ?_)⟩
  refine ⟨(by decide +kernel), (by decide +kernel), (by decide +kernel), (by decide +kernel), y_new (b' := 288) h95 (by decide +kernel) rfl (fun M96 h96 => ?_)⟩
  rw [h95.1]
  refine ⟨(h96.ob 241 12 (by decide +kernel) (by decide +kernel) (by decide +kernel)), y_sr (r' := 284) h96 (by decide +kernel) (by decide +kernel) rfl (fun M97 h97 => ?_)⟩
  refine ⟨(by decide +kernel), (by decide +kernel), (by decide +kernel), (by decide +kernel), y_new (b' := 289) h97 (by decide +kernel) rfl (fun M98 h98 => ?_)⟩
  rw [h97.1]
  refine ⟨(h98.ob 241 12 (by decide +kernel) (by decide +kernel) (by decide +kernel)), y_sr (r' := 285) h98 (by decide +kernel) (by decide +kernel) rfl (fun M99 h99 => ?_)⟩
  refine ⟨(by decide +kernel), (by decide +kernel), (by decide +kernel), (by decide +kernel), y_new (b' := 290) h99 (by decide +kernel) rfl (fun M100 h100 => ?_)⟩
  rw [h99.1]
  refine ⟨(h100.ob 241 12 (by decide +kernel) (by decide +kernel) (by decide +kernel)), y_sr (r' := 286) h100 (by decide +kernel) (by decide +kernel) rfl (fun M101 h101 => ?_)⟩
  refine ⟨(by decide +kernel), (by decide +kernel), (by decide +kernel), (by decide +kernel), y_new (b' := 291) h101 (by decide +kernel) rfl (fun M102 h102 => ?_)⟩
  rw [h101.1]
  refine ⟨(h102.ob 241 12 (by decide +kernel) (by decide +kernel) (by decide +kernel)), y_sr (r' := 287) h102 (by decide +kernel) (by decide +kernel) rfl (fun M103 h103 => ?_)⟩
  exact hQ _ h103
