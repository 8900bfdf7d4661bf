/-! ===== pure: where the cells lie (written by a program) ===== -/
def y_lay : List (Nat × Nat) := [(11, 0), (7, 0), (0, 0), (10, 0), (20, 1500), (4, 0), (2, 0), (20, 64), (20, 64), (20, 64), (20, 64), (20, 64), (20, 64), (20, 1024), (3, 0), (20, 4001), (20, 4001), (9, 0), (20, 16), (20, 6000), (23, 30), (20, 16), (20, 1800), (1, 0), (20, 1500), (20, 500), (20, 100), (6, 0), (20, 1500), (20, 8), (20, 8), (20, 8), (20, 64), (24, 8), (8, 0), (20, 4), (8, 0), (20, 4), (8, 0), (20, 4), (8, 0), (20, 4), (8, 0), (20, 4), (8, 0), (20, 4), (8, 0), (20, 4), (8, 0), (20, 4), (24, 16), (8, 0), (20, 4), (8, 0), (20, 4), (8, 0), (20, 4), (8, 0), (20, 4), (8, 0), (20, 4), (8, 0), (20, 4), (8, 0), (20, 4), (8, 0), (20, 4), (8, 0), (20, 4), (8, 0), (20, 4), (8, 0), (20, 4), (8, 0), (20, 4), (8, 0), (20, 4), (8, 0), (20, 4), (8, 0), (20, 4), (8, 0), (20, 4), (20, 64), (20, 1500), (20, 1500), (20, 1500), (21, 1500), (21, 1500), (6, 0), (20, 1500), (20, 8), (20, 8), (20, 8), (20, 64), (24, 8), (8, 0), (20, 4), (8, 0), (20, 4), (8, 0), (20, 4), (8, 0), (20, 4), (8, 0), (20, 4), (8, 0), (20, 4), (8, 0), (20, 4), (8, 0), (20, 4), (24, 16), (8, 0), (20, 4), (8, 0), (20, 4), (8, 0), (20, 4), (8, 0), (20, 4), (8, 0), (20, 4), (8, 0), (20, 4), (8, 0), (20, 4), (8, 0), (20, 4), (8, 0), (20, 4), (8, 0), (20, 4), (8, 0), (20, 4), (8, 0), (20, 4), (8, 0), (20, 4), (8, 0), (20, 4), (8, 0), (20, 4), (8, 0), (20, 4), (20, 64), (20, 1500), (20, 1500), (20, 1500), (21, 1500), (21, 1500), (12, 0), (20, 1500), (20, 1500), (20, 1500), (20, 8), (20, 8), (20, 64), (20, 8), (20, 24), (20, 8), (20, 16), (20, 64), (20, 16), (20, 16), (20, 16), (20, 16), (20, 1920), (22, 1920), (20, 64), (20, 1920), (20, 30720), (20, 16), (20, 100), (20, 500), (20, 16), (20, 16), (20, 15360), (20, 1500), (20, 101), (20, 101), (20, 180600), (20, 64), (20, 64), (20, 64), (20, 64), (20, 64), (20, 64), (20, 64), (20, 512), (20, 512), (20, 2100), (20, 2100), (20, 2100), (20, 2100), (22, 2100), (20, 4100), (20, 6), (20, 6), (20, 6), (20, 2100), (21, 1)]
def y_refs : List (Nat × Nat × Nat) := [(8, 0, 9), (8, 1, 10), (11, 2, 12), (8, 2, 11), (14, 1, 15), (14, 2, 16), (14, 3, 17), (14, 4, 18), (14, 5, 19), (14, 6, 20), (14, 7, 21), (13, 0, 14), (13, 1, 22), (25, 4, 26), (25, 5, 27), (25, 6, 28), (25, 8, 29), (25, 9, 30), (13, 2, 25), (31, 1, 32), (13, 3, 31), (13, 4, 33), (13, 12, 34), (8, 3, 13), (35, 0, 36), (35, 3, 37), (35, 4, 38), (35, 5, 39), (35, 6, 40), (35, 8, 41), (42, 0, 43), (41, 0, 42), (44, 0, 45), (41, 1, 44), (46, 0, 47), (41, 2, 46), (48, 0, 49), (41, 3, 48), (50, 0, 51), (41, 4, 50), (52, 0, 53), (41, 5, 52), (54, 0, 55), (41, 6, 54), (56, 0, 57), (41, 7, 56), (35, 10, 58), (59, 0, 60), (58, 0, 59), (61, 0, 62), (58, 1, 61), (63, 0, 64), (58, 2, 63), (65, 0, 66), (58, 3, 65), (67, 0, 68), (58, 4, 67), (69, 0, 70), (58, 5, 69), (71, 0, 72), (58, 6, 71), (73, 0, 74), (58, 7, 73), (75, 0, 76), (58, 8, 75), (77, 0, 78), (58, 9, 77), (79, 0, 80), (58, 10, 79), (81, 0, 82), (58, 11, 81), (83, 0, 84), (58, 12, 83), (85, 0, 86), (58, 13, 85), (87, 0, 88), (58, 14, 87), (89, 0, 90), (58, 15, 89), (35, 11, 91), (35, 12, 92), (35, 13, 93), (35, 15, 94), (35, 16, 95), (35, 17, 96), (97, 0, 98), (97, 3, 99), (97, 4, 100), (97, 5, 101), (97, 6, 102), (97, 8, 103), (104, 0, 105), (103, 0, 104), (106, 0, 107), (103, 1, 106), (108, 0, 109), (103, 2, 108), (110, 0, 111), (103, 3, 110), (112, 0, 113), (103, 4, 112), (114, 0, 115), (103, 5, 114), (116, 0, 117), (103, 6, 116), (118, 0, 119), (103, 7, 118), (97, 10, 120), (121, 0, 122), (120, 0, 121), (123, 0, 124), (120, 1, 123), (125, 0, 126), (120, 2, 125), (127, 0, 128), (120, 3, 127), (129, 0, 130), (120, 4, 129), (131, 0, 132), (120, 5, 131), (133, 0, 134), (120, 6, 133), (135, 0, 136), (120, 7, 135), (137, 0, 138), (120, 8, 137), (139, 0, 140), (120, 9, 139), (141, 0, 142), (120, 10, 141), (143, 0, 144), (120, 11, 143), (145, 0, 146), (120, 12, 145), (147, 0, 148), (120, 13, 147), (149, 0, 150), (120, 14, 149), (151, 0, 152), (120, 15, 151), (97, 11, 153), (97, 12, 154), (97, 13, 155), (97, 15, 156), (97, 16, 157), (97, 17, 158), (159, 2, 160), (159, 3, 161), (159, 5, 162), (159, 12, 163), (159, 13, 164), (159, 14, 165), (159, 16, 166), (159, 17, 167), (159, 18, 168), (159, 20, 169), (159, 21, 170), (159, 22, 171), (159, 23, 172), (159, 24, 173), (159, 25, 174), (159, 26, 175), (159, 27, 176), (159, 28, 177), (159, 29, 178), (159, 30, 179), (159, 31, 180), (159, 40, 181), (159, 48, 182), (159, 49, 183), (159, 50, 184), (159, 51, 185), (159, 53, 186), (159, 55, 187), (159, 56, 188), (159, 59, 189), (159, 61, 190), (159, 62, 191), (159, 63, 192), (159, 64, 193), (159, 65, 194), (159, 66, 195), (159, 67, 196), (159, 68, 197), (159, 69, 198), (159, 74, 199), (159, 75, 200), (159, 76, 201), (159, 77, 202), (159, 78, 203), (159, 80, 204), (159, 83, 205), (159, 84, 206), (159, 85, 207), (159, 89, 208)]
/-- kinds and lengths of the cells, the references that stay, the script and the tables -/
def Y (L : Nat) (xs : Nat → Int32) (M : eM) : Prop := (210 ≤ M.1 ∧ (∀ k, k < 202 → M.2.1 (8 + k) = y_lay.getD k (0, 0)) ∧ M.2.1 1 = (20, L) ∧ M.2.1 2 = (20, 53) ∧ M.2.1 3 = (20, 54) ∧ M.2.1 4 = (20, 54)) ∧ (∀ q ∈ y_refs, gr M q.1 q.2.1 = q.2.2) ∧ (∀ j, gi M 1 j = xs j) ∧ (∀ j, gi M 2 j = e_sz.getD j 0) ∧ (∀ j, gi M 3 j = e_tk.getD j 0) ∧ (∀ j, gi M 4 j = e_pu.getD j 0)
theorem Y.k {L xs M} (h : Y L xs M) (k : Nat) (hk : k < 202) : M.2.1 (8 + k) = y_lay.getD k (0, 0) := h.1.2.1 k hk
theorem Y.ob {L xs M} (h : Y L xs M) (o ci : Nat) (h8 : 8 ≤ o) (ho : o < 210) (hc : (y_lay.getD (o - 8) (0, 0)).1 = ci) : e_ob M o ci := by
  have := h.1.1
  refine ⟨h8, by omega, ?_⟩
  have h2 := h.k (o - 8) (by omega)
  rw [show 8 + (o - 8) = o by omega] at h2
  rw [h2, hc]
theorem Y.kn {L xs M} (h : Y L xs M) (o : Nat) (h8 : 8 ≤ o) (ho : o < 210) : M.2.1 o = y_lay.getD (o - 8) (0, 0) := by
  have h2 := h.k (o - 8) (by omega)
  rwa [show 8 + (o - 8) = o by omega] at h2
theorem Y.ar {L xs M} (h : Y L xs M) (a t n : Nat) (i : Int32) (h8 : 8 ≤ a) (ho : a < 210) (hc : y_lay.getD (a - 8) (0, 0) = (t, n)) : e_ar M a t i ↔ vp_in i n := by
  have := h.1.1
  have h2 := h.kn a h8 ho
  unfold e_ar
  rw [h2, hc]
  constructor
  · exact fun z => z.2.2.2
  · exact fun z => ⟨h8, by omega, rfl, z⟩
theorem Y.ai {L xs M} (h : Y L xs M) (a n : Nat) (i : Int32) (h8 : 8 ≤ a) (ho : a < 210) (hc : y_lay.getD (a - 8) (0, 0) = (20, n)) : e_ai M a i ↔ vp_in i n := by
  have := h.1.1
  have h2 := h.kn a h8 ho
  unfold e_ai
  rw [h2, hc]
  constructor
  · exact fun z => z.2.2.2
  · exact fun z => ⟨by omega, by omega, rfl, z⟩
theorem Y.r {L xs M} (h : Y L xs M) (a j v : Nat) (hq : (a, j, v) ∈ y_refs) : gr M a j = v := h.2.1 (a, j, v) hq
theorem yo8 {L xs M} (h : Y L xs M) : e_ob M 8 11 := h.ob 8 11 (by decide) (by decide) rfl
theorem yo9 {L xs M} (h : Y L xs M) : e_ob M 9 7 := h.ob 9 7 (by decide) (by decide) rfl
theorem yo10 {L xs M} (h : Y L xs M) : e_ob M 10 0 := h.ob 10 0 (by decide) (by decide) rfl
theorem yo11 {L xs M} (h : Y L xs M) : e_ob M 11 10 := h.ob 11 10 (by decide) (by decide) rfl
theorem ya12 {L xs M} (h : Y L xs M) (i : Int32) : e_ar M 12 20 i ↔ vp_in i 1500 := h.ar 12 20 1500 i (by decide) (by decide) rfl
theorem yi12 {L xs M} (h : Y L xs M) (i : Int32) : e_ai M 12 i ↔ vp_in i 1500 := h.ai 12 1500 i (by decide) (by decide) rfl
theorem yo13 {L xs M} (h : Y L xs M) : e_ob M 13 4 := h.ob 13 4 (by decide) (by decide) rfl
theorem yo14 {L xs M} (h : Y L xs M) : e_ob M 14 2 := h.ob 14 2 (by decide) (by decide) rfl
theorem ya15 {L xs M} (h : Y L xs M) (i : Int32) : e_ar M 15 20 i ↔ vp_in i 64 := h.ar 15 20 64 i (by decide) (by decide) rfl
theorem yi15 {L xs M} (h : Y L xs M) (i : Int32) : e_ai M 15 i ↔ vp_in i 64 := h.ai 15 64 i (by decide) (by decide) rfl
theorem ya16 {L xs M} (h : Y L xs M) (i : Int32) : e_ar M 16 20 i ↔ vp_in i 64 := h.ar 16 20 64 i (by decide) (by decide) rfl
theorem yi16 {L xs M} (h : Y L xs M) (i : Int32) : e_ai M 16 i ↔ vp_in i 64 := h.ai 16 64 i (by decide) (by decide) rfl
theorem ya17 {L xs M} (h : Y L xs M) (i : Int32) : e_ar M 17 20 i ↔ vp_in i 64 := h.ar 17 20 64 i (by decide) (by decide) rfl
theorem yi17 {L xs M} (h : Y L xs M) (i : Int32) : e_ai M 17 i ↔ vp_in i 64 := h.ai 17 64 i (by decide) (by decide) rfl
theorem ya18 {L xs M} (h : Y L xs M) (i : Int32) : e_ar M 18 20 i ↔ vp_in i 64 := h.ar 18 20 64 i (by decide) (by decide) rfl
theorem yi18 {L xs M} (h : Y L xs M) (i : Int32) : e_ai M 18 i ↔ vp_in i 64 := h.ai 18 64 i (by decide) (by decide) rfl
theorem ya19 {L xs M} (h : Y L xs M) (i : Int32) : e_ar M 19 20 i ↔ vp_in i 64 := h.ar 19 20 64 i (by decide) (by decide) rfl
theorem yi19 {L xs M} (h : Y L xs M) (i : Int32) : e_ai M 19 i ↔ vp_in i 64 := h.ai 19 64 i (by decide) (by decide) rfl
theorem ya20 {L xs M} (h : Y L xs M) (i : Int32) : e_ar M 20 20 i ↔ vp_in i 64 := h.ar 20 20 64 i (by decide) (by decide) rfl
theorem yi20 {L xs M} (h : Y L xs M) (i : Int32) : e_ai M 20 i ↔ vp_in i 64 := h.ai 20 64 i (by decide) (by decide) rfl
theorem ya21 {L xs M} (h : Y L xs M) (i : Int32) : e_ar M 21 20 i ↔ vp_in i 1024 := h.ar 21 20 1024 i (by decide) (by decide) rfl
theorem yi21 {L xs M} (h : Y L xs M) (i : Int32) : e_ai M 21 i ↔ vp_in i 1024 := h.ai 21 1024 i (by decide) (by decide) rfl
theorem yo22 {L xs M} (h : Y L xs M) : e_ob M 22 3 := h.ob 22 3 (by decide) (by decide) rfl
theorem ya23 {L xs M} (h : Y L xs M) (i : Int32) : e_ar M 23 20 i ↔ vp_in i 4001 := h.ar 23 20 4001 i (by decide) (by decide) rfl
theorem yi23 {L xs M} (h : Y L xs M) (i : Int32) : e_ai M 23 i ↔ vp_in i 4001 := h.ai 23 4001 i (by decide) (by decide) rfl
theorem ya24 {L xs M} (h : Y L xs M) (i : Int32) : e_ar M 24 20 i ↔ vp_in i 4001 := h.ar 24 20 4001 i (by decide) (by decide) rfl
theorem yi24 {L xs M} (h : Y L xs M) (i : Int32) : e_ai M 24 i ↔ vp_in i 4001 := h.ai 24 4001 i (by decide) (by decide) rfl
theorem yo25 {L xs M} (h : Y L xs M) : e_ob M 25 9 := h.ob 25 9 (by decide) (by decide) rfl
theorem ya26 {L xs M} (h : Y L xs M) (i : Int32) : e_ar M 26 20 i ↔ vp_in i 16 := h.ar 26 20 16 i (by decide) (by decide) rfl
theorem yi26 {L xs M} (h : Y L xs M) (i : Int32) : e_ai M 26 i ↔ vp_in i 16 := h.ai 26 16 i (by decide) (by decide) rfl
theorem ya27 {L xs M} (h : Y L xs M) (i : Int32) : e_ar M 27 20 i ↔ vp_in i 6000 := h.ar 27 20 6000 i (by decide) (by decide) rfl
theorem yi27 {L xs M} (h : Y L xs M) (i : Int32) : e_ai M 27 i ↔ vp_in i 6000 := h.ai 27 6000 i (by decide) (by decide) rfl
theorem ya28 {L xs M} (h : Y L xs M) (i : Int32) : e_ar M 28 23 i ↔ vp_in i 30 := h.ar 28 23 30 i (by decide) (by decide) rfl
theorem ya29 {L xs M} (h : Y L xs M) (i : Int32) : e_ar M 29 20 i ↔ vp_in i 16 := h.ar 29 20 16 i (by decide) (by decide) rfl
theorem yi29 {L xs M} (h : Y L xs M) (i : Int32) : e_ai M 29 i ↔ vp_in i 16 := h.ai 29 16 i (by decide) (by decide) rfl
theorem ya30 {L xs M} (h : Y L xs M) (i : Int32) : e_ar M 30 20 i ↔ vp_in i 1800 := h.ar 30 20 1800 i (by decide) (by decide) rfl
theorem yi30 {L xs M} (h : Y L xs M) (i : Int32) : e_ai M 30 i ↔ vp_in i 1800 := h.ai 30 1800 i (by decide) (by decide) rfl
theorem yo31 {L xs M} (h : Y L xs M) : e_ob M 31 1 := h.ob 31 1 (by decide) (by decide) rfl
theorem ya32 {L xs M} (h : Y L xs M) (i : Int32) : e_ar M 32 20 i ↔ vp_in i 1500 := h.ar 32 20 1500 i (by decide) (by decide) rfl
theorem yi32 {L xs M} (h : Y L xs M) (i : Int32) : e_ai M 32 i ↔ vp_in i 1500 := h.ai 32 1500 i (by decide) (by decide) rfl
theorem ya33 {L xs M} (h : Y L xs M) (i : Int32) : e_ar M 33 20 i ↔ vp_in i 500 := h.ar 33 20 500 i (by decide) (by decide) rfl
theorem yi33 {L xs M} (h : Y L xs M) (i : Int32) : e_ai M 33 i ↔ vp_in i 500 := h.ai 33 500 i (by decide) (by decide) rfl
theorem ya34 {L xs M} (h : Y L xs M) (i : Int32) : e_ar M 34 20 i ↔ vp_in i 100 := h.ar 34 20 100 i (by decide) (by decide) rfl
theorem yi34 {L xs M} (h : Y L xs M) (i : Int32) : e_ai M 34 i ↔ vp_in i 100 := h.ai 34 100 i (by decide) (by decide) rfl
theorem yo35 {L xs M} (h : Y L xs M) : e_ob M 35 6 := h.ob 35 6 (by decide) (by decide) rfl
theorem ya36 {L xs M} (h : Y L xs M) (i : Int32) : e_ar M 36 20 i ↔ vp_in i 1500 := h.ar 36 20 1500 i (by decide) (by decide) rfl
theorem yi36 {L xs M} (h : Y L xs M) (i : Int32) : e_ai M 36 i ↔ vp_in i 1500 := h.ai 36 1500 i (by decide) (by decide) rfl
theorem ya37 {L xs M} (h : Y L xs M) (i : Int32) : e_ar M 37 20 i ↔ vp_in i 8 := h.ar 37 20 8 i (by decide) (by decide) rfl
theorem yi37 {L xs M} (h : Y L xs M) (i : Int32) : e_ai M 37 i ↔ vp_in i 8 := h.ai 37 8 i (by decide) (by decide) rfl
theorem ya38 {L xs M} (h : Y L xs M) (i : Int32) : e_ar M 38 20 i ↔ vp_in i 8 := h.ar 38 20 8 i (by decide) (by decide) rfl
theorem yi38 {L xs M} (h : Y L xs M) (i : Int32) : e_ai M 38 i ↔ vp_in i 8 := h.ai 38 8 i (by decide) (by decide) rfl
theorem ya39 {L xs M} (h : Y L xs M) (i : Int32) : e_ar M 39 20 i ↔ vp_in i 8 := h.ar 39 20 8 i (by decide) (by decide) rfl
theorem yi39 {L xs M} (h : Y L xs M) (i : Int32) : e_ai M 39 i ↔ vp_in i 8 := h.ai 39 8 i (by decide) (by decide) rfl
theorem ya40 {L xs M} (h : Y L xs M) (i : Int32) : e_ar M 40 20 i ↔ vp_in i 64 := h.ar 40 20 64 i (by decide) (by decide) rfl
theorem yi40 {L xs M} (h : Y L xs M) (i : Int32) : e_ai M 40 i ↔ vp_in i 64 := h.ai 40 64 i (by decide) (by decide) rfl
theorem ya41 {L xs M} (h : Y L xs M) (i : Int32) : e_ar M 41 24 i ↔ vp_in i 8 := h.ar 41 24 8 i (by decide) (by decide) rfl
theorem yo42 {L xs M} (h : Y L xs M) : e_ob M 42 8 := h.ob 42 8 (by decide) (by decide) rfl
theorem ya43 {L xs M} (h : Y L xs M) (i : Int32) : e_ar M 43 20 i ↔ vp_in i 4 := h.ar 43 20 4 i (by decide) (by decide) rfl
theorem yi43 {L xs M} (h : Y L xs M) (i : Int32) : e_ai M 43 i ↔ vp_in i 4 := h.ai 43 4 i (by decide) (by decide) rfl
theorem yo44 {L xs M} (h : Y L xs M) : e_ob M 44 8 := h.ob 44 8 (by decide) (by decide) rfl
theorem ya45 {L xs M} (h : Y L xs M) (i : Int32) : e_ar M 45 20 i ↔ vp_in i 4 := h.ar 45 20 4 i (by decide) (by decide) rfl
theorem yi45 {L xs M} (h : Y L xs M) (i : Int32) : e_ai M 45 i ↔ vp_in i 4 := h.ai 45 4 i (by decide) (by decide) rfl
theorem yo46 {L xs M} (h : Y L xs M) : e_ob M 46 8 := h.ob 46 8 (by decide) (by decide) rfl
theorem ya47 {L xs M} (h : Y L xs M) (i : Int32) : e_ar M 47 20 i ↔ vp_in i 4 := h.ar 47 20 4 i (by decide) (by decide) rfl
theorem yi47 {L xs M} (h : Y L xs M) (i : Int32) : e_ai M 47 i ↔ vp_in i 4 := h.ai 47 4 i (by decide) (by decide) rfl
theorem yo48 {L xs M} (h : Y L xs M) : e_ob M 48 8 := h.ob 48 8 (by decide) (by decide) rfl
theorem ya49 {L xs M} (h : Y L xs M) (i : Int32) : e_ar M 49 20 i ↔ vp_in i 4 := h.ar 49 20 4 i (by decide) (by decide) rfl
theorem yi49 {L xs M} (h : Y L xs M) (i : Int32) : e_ai M 49 i ↔ vp_in i 4 := h.ai 49 4 i (by decide) (by decide) rfl
theorem yo50 {L xs M} (h : Y L xs M) : e_ob M 50 8 := h.ob 50 8 (by decide) (by decide) rfl
theorem ya51 {L xs M} (h : Y L xs M) (i : Int32) : e_ar M 51 20 i ↔ vp_in i 4 := h.ar 51 20 4 i (by decide) (by decide) rfl
theorem yi51 {L xs M} (h : Y L xs M) (i : Int32) : e_ai M 51 i ↔ vp_in i 4 := h.ai 51 4 i (by decide) (by decide) rfl
theorem yo52 {L xs M} (h : Y L xs M) : e_ob M 52 8 := h.ob 52 8 (by decide) (by decide) rfl
theorem ya53 {L xs M} (h : Y L xs M) (i : Int32) : e_ar M 53 20 i ↔ vp_in i 4 := h.ar 53 20 4 i (by decide) (by decide) rfl
theorem yi53 {L xs M} (h : Y L xs M) (i : Int32) : e_ai M 53 i ↔ vp_in i 4 := h.ai 53 4 i (by decide) (by decide) rfl
theorem yo54 {L xs M} (h : Y L xs M) : e_ob M 54 8 := h.ob 54 8 (by decide) (by decide) rfl
theorem ya55 {L xs M} (h : Y L xs M) (i : Int32) : e_ar M 55 20 i ↔ vp_in i 4 := h.ar 55 20 4 i (by decide) (by decide) rfl
theorem yi55 {L xs M} (h : Y L xs M) (i : Int32) : e_ai M 55 i ↔ vp_in i 4 := h.ai 55 4 i (by decide) (by decide) rfl
theorem yo56 {L xs M} (h : Y L xs M) : e_ob M 56 8 := h.ob 56 8 (by decide) (by decide) rfl
theorem ya57 {L xs M} (h : Y L xs M) (i : Int32) : e_ar M 57 20 i ↔ vp_in i 4 := h.ar 57 20 4 i (by decide) (by decide) rfl
theorem yi57 {L xs M} (h : Y L xs M) (i : Int32) : e_ai M 57 i ↔ vp_in i 4 := h.ai 57 4 i (by decide) (by decide) rfl
theorem ya58 {L xs M} (h : Y L xs M) (i : Int32) : e_ar M 58 24 i ↔ vp_in i 16 := h.ar 58 24 16 i (by decide) (by decide) rfl
theorem yo59 {L xs M} (h : Y L xs M) : e_ob M 59 8 := h.ob 59 8 (by decide) (by decide) rfl
theorem ya60 {L xs M} (h : Y L xs M) (i : Int32) : e_ar M 60 20 i ↔ vp_in i 4 := h.ar 60 20 4 i (by decide) (by decide) rfl
theorem yi60 {L xs M} (h : Y L xs M) (i : Int32) : e_ai M 60 i ↔ vp_in i 4 := h.ai 60 4 i (by decide) (by decide) rfl
theorem yo61 {L xs M} (h : Y L xs M) : e_ob M 61 8 := h.ob 61 8 (by decide) (by decide) rfl
theorem ya62 {L xs M} (h : Y L xs M) (i : Int32) : e_ar M 62 20 i ↔ vp_in i 4 := h.ar 62 20 4 i (by decide) (by decide) rfl
theorem yi62 {L xs M} (h : Y L xs M) (i : Int32) : e_ai M 62 i ↔ vp_in i 4 := h.ai 62 4 i (by decide) (by decide) rfl
theorem yo63 {L xs M} (h : Y L xs M) : e_ob M 63 8 := h.ob 63 8 (by decide) (by decide) rfl
theorem ya64 {L xs M} (h : Y L xs M) (i : Int32) : e_ar M 64 20 i ↔ vp_in i 4 := h.ar 64 20 4 i (by decide) (by decide) rfl
theorem yi64 {L xs M} (h : Y L xs M) (i : Int32) : e_ai M 64 i ↔ vp_in i 4 := h.ai 64 4 i (by decide) (by decide) rfl
theorem yo65 {L xs M} (h : Y L xs M) : e_ob M 65 8 := h.ob 65 8 (by decide) (by decide) rfl
theorem ya66 {L xs M} (h : Y L xs M) (i : Int32) : e_ar M 66 20 i ↔ vp_in i 4 := h.ar 66 20 4 i (by decide) (by decide) rfl
theorem yi66 {L xs M} (h : Y L xs M) (i : Int32) : e_ai M 66 i ↔ vp_in i 4 := h.ai 66 4 i (by decide) (by decide) rfl
theorem yo67 {L xs M} (h : Y L xs M) : e_ob M 67 8 := h.ob 67 8 (by decide) (by decide) rfl
theorem ya68 {L xs M} (h : Y L xs M) (i : Int32) : e_ar M 68 20 i ↔ vp_in i 4 := h.ar 68 20 4 i (by decide) (by decide) rfl
theorem yi68 {L xs M} (h : Y L xs M) (i : Int32) : e_ai M 68 i ↔ vp_in i 4 := h.ai 68 4 i (by decide) (by decide) rfl
theorem yo69 {L xs M} (h : Y L xs M) : e_ob M 69 8 := h.ob 69 8 (by decide) (by decide) rfl
theorem ya70 {L xs M} (h : Y L xs M) (i : Int32) : e_ar M 70 20 i ↔ vp_in i 4 := h.ar 70 20 4 i (by decide) (by decide) rfl
theorem yi70 {L xs M} (h : Y L xs M) (i : Int32) : e_ai M 70 i ↔ vp_in i 4 := h.ai 70 4 i (by decide) (by decide) rfl
theorem yo71 {L xs M} (h : Y L xs M) : e_ob M 71 8 := h.ob 71 8 (by decide) (by decide) rfl
theorem ya72 {L xs M} (h : Y L xs M) (i : Int32) : e_ar M 72 20 i ↔ vp_in i 4 := h.ar 72 20 4 i (by decide) (by decide) rfl
theorem yi72 {L xs M} (h : Y L xs M) (i : Int32) : e_ai M 72 i ↔ vp_in i 4 := h.ai 72 4 i (by decide) (by decide) rfl
theorem yo73 {L xs M} (h : Y L xs M) : e_ob M 73 8 := h.ob 73 8 (by decide) (by decide) rfl
theorem ya74 {L xs M} (h : Y L xs M) (i : Int32) : e_ar M 74 20 i ↔ vp_in i 4 := h.ar 74 20 4 i (by decide) (by decide) rfl
theorem yi74 {L xs M} (h : Y L xs M) (i : Int32) : e_ai M 74 i ↔ vp_in i 4 := h.ai 74 4 i (by decide) (by decide) rfl
theorem yo75 {L xs M} (h : Y L xs M) : e_ob M 75 8 := h.ob 75 8 (by decide) (by decide) rfl
theorem ya76 {L xs M} (h : Y L xs M) (i : Int32) : e_ar M 76 20 i ↔ vp_in i 4 := h.ar 76 20 4 i (by decide) (by decide) rfl
theorem yi76 {L xs M} (h : Y L xs M) (i : Int32) : e_ai M 76 i ↔ vp_in i 4 := h.ai 76 4 i (by decide) (by decide) rfl
theorem yo77 {L xs M} (h : Y L xs M) : e_ob M 77 8 := h.ob 77 8 (by decide) (by decide) rfl
theorem ya78 {L xs M} (h : Y L xs M) (i : Int32) : e_ar M 78 20 i ↔ vp_in i 4 := h.ar 78 20 4 i (by decide) (by decide) rfl
theorem yi78 {L xs M} (h : Y L xs M) (i : Int32) : e_ai M 78 i ↔ vp_in i 4 := h.ai 78 4 i (by decide) (by decide) rfl
theorem yo79 {L xs M} (h : Y L xs M) : e_ob M 79 8 := h.ob 79 8 (by decide) (by decide) rfl
theorem ya80 {L xs M} (h : Y L xs M) (i : Int32) : e_ar M 80 20 i ↔ vp_in i 4 := h.ar 80 20 4 i (by decide) (by decide) rfl
theorem yi80 {L xs M} (h : Y L xs M) (i : Int32) : e_ai M 80 i ↔ vp_in i 4 := h.ai 80 4 i (by decide) (by decide) rfl
theorem yo81 {L xs M} (h : Y L xs M) : e_ob M 81 8 := h.ob 81 8 (by decide) (by decide) rfl
theorem ya82 {L xs M} (h : Y L xs M) (i : Int32) : e_ar M 82 20 i ↔ vp_in i 4 := h.ar 82 20 4 i (by decide) (by decide) rfl
theorem yi82 {L xs M} (h : Y L xs M) (i : Int32) : e_ai M 82 i ↔ vp_in i 4 := h.ai 82 4 i (by decide) (by decide) rfl
theorem yo83 {L xs M} (h : Y L xs M) : e_ob M 83 8 := h.ob 83 8 (by decide) (by decide) rfl
theorem ya84 {L xs M} (h : Y L xs M) (i : Int32) : e_ar M 84 20 i ↔ vp_in i 4 := h.ar 84 20 4 i (by decide) (by decide) rfl
theorem yi84 {L xs M} (h : Y L xs M) (i : Int32) : e_ai M 84 i ↔ vp_in i 4 := h.ai 84 4 i (by decide) (by decide) rfl
theorem yo85 {L xs M} (h : Y L xs M) : e_ob M 85 8 := h.ob 85 8 (by decide) (by decide) rfl
theorem ya86 {L xs M} (h : Y L xs M) (i : Int32) : e_ar M 86 20 i ↔ vp_in i 4 := h.ar 86 20 4 i (by decide) (by decide) rfl
theorem yi86 {L xs M} (h : Y L xs M) (i : Int32) : e_ai M 86 i ↔ vp_in i 4 := h.ai 86 4 i (by decide) (by decide) rfl
theorem yo87 {L xs M} (h : Y L xs M) : e_ob M 87 8 := h.ob 87 8 (by decide) (by decide) rfl
theorem ya88 {L xs M} (h : Y L xs M) (i : Int32) : e_ar M 88 20 i ↔ vp_in i 4 := h.ar 88 20 4 i (by decide) (by decide) rfl
theorem yi88 {L xs M} (h : Y L xs M) (i : Int32) : e_ai M 88 i ↔ vp_in i 4 := h.ai 88 4 i (by decide) (by decide) rfl
theorem yo89 {L xs M} (h : Y L xs M) : e_ob M 89 8 := h.ob 89 8 (by decide) (by decide) rfl
theorem ya90 {L xs M} (h : Y L xs M) (i : Int32) : e_ar M 90 20 i ↔ vp_in i 4 := h.ar 90 20 4 i (by decide) (by decide) rfl
theorem yi90 {L xs M} (h : Y L xs M) (i : Int32) : e_ai M 90 i ↔ vp_in i 4 := h.ai 90 4 i (by decide) (by decide) rfl
theorem ya91 {L xs M} (h : Y L xs M) (i : Int32) : e_ar M 91 20 i ↔ vp_in i 64 := h.ar 91 20 64 i (by decide) (by decide) rfl
theorem yi91 {L xs M} (h : Y L xs M) (i : Int32) : e_ai M 91 i ↔ vp_in i 64 := h.ai 91 64 i (by decide) (by decide) rfl
theorem ya92 {L xs M} (h : Y L xs M) (i : Int32) : e_ar M 92 20 i ↔ vp_in i 1500 := h.ar 92 20 1500 i (by decide) (by decide) rfl
theorem yi92 {L xs M} (h : Y L xs M) (i : Int32) : e_ai M 92 i ↔ vp_in i 1500 := h.ai 92 1500 i (by decide) (by decide) rfl
theorem ya93 {L xs M} (h : Y L xs M) (i : Int32) : e_ar M 93 20 i ↔ vp_in i 1500 := h.ar 93 20 1500 i (by decide) (by decide) rfl
theorem yi93 {L xs M} (h : Y L xs M) (i : Int32) : e_ai M 93 i ↔ vp_in i 1500 := h.ai 93 1500 i (by decide) (by decide) rfl
theorem ya94 {L xs M} (h : Y L xs M) (i : Int32) : e_ar M 94 20 i ↔ vp_in i 1500 := h.ar 94 20 1500 i (by decide) (by decide) rfl
theorem yi94 {L xs M} (h : Y L xs M) (i : Int32) : e_ai M 94 i ↔ vp_in i 1500 := h.ai 94 1500 i (by decide) (by decide) rfl
theorem ya95 {L xs M} (h : Y L xs M) (i : Int32) : e_ar M 95 21 i ↔ vp_in i 1500 := h.ar 95 21 1500 i (by decide) (by decide) rfl
theorem ya96 {L xs M} (h : Y L xs M) (i : Int32) : e_ar M 96 21 i ↔ vp_in i 1500 := h.ar 96 21 1500 i (by decide) (by decide) rfl
theorem yo97 {L xs M} (h : Y L xs M) : e_ob M 97 6 := h.ob 97 6 (by decide) (by decide) rfl
theorem ya98 {L xs M} (h : Y L xs M) (i : Int32) : e_ar M 98 20 i ↔ vp_in i 1500 := h.ar 98 20 1500 i (by decide) (by decide) rfl
theorem yi98 {L xs M} (h : Y L xs M) (i : Int32) : e_ai M 98 i ↔ vp_in i 1500 := h.ai 98 1500 i (by decide) (by decide) rfl
theorem ya99 {L xs M} (h : Y L xs M) (i : Int32) : e_ar M 99 20 i ↔ vp_in i 8 := h.ar 99 20 8 i (by decide) (by decide) rfl
theorem yi99 {L xs M} (h : Y L xs M) (i : Int32) : e_ai M 99 i ↔ vp_in i 8 := h.ai 99 8 i (by decide) (by decide) rfl
theorem ya100 {L xs M} (h : Y L xs M) (i : Int32) : e_ar M 100 20 i ↔ vp_in i 8 := h.ar 100 20 8 i (by decide) (by decide) rfl
theorem yi100 {L xs M} (h : Y L xs M) (i : Int32) : e_ai M 100 i ↔ vp_in i 8 := h.ai 100 8 i (by decide) (by decide) rfl
theorem ya101 {L xs M} (h : Y L xs M) (i : Int32) : e_ar M 101 20 i ↔ vp_in i 8 := h.ar 101 20 8 i (by decide) (by decide) rfl
theorem yi101 {L xs M} (h : Y L xs M) (i : Int32) : e_ai M 101 i ↔ vp_in i 8 := h.ai 101 8 i (by decide) (by decide) rfl
theorem ya102 {L xs M} (h : Y L xs M) (i : Int32) : e_ar M 102 20 i ↔ vp_in i 64 := h.ar 102 20 64 i (by decide) (by decide) rfl
theorem yi102 {L xs M} (h : Y L xs M) (i : Int32) : e_ai M 102 i ↔ vp_in i 64 := h.ai 102 64 i (by decide) (by decide) rfl
theorem ya103 {L xs M} (h : Y L xs M) (i : Int32) : e_ar M 103 24 i ↔ vp_in i 8 := h.ar 103 24 8 i (by decide) (by decide) rfl
theorem yo104 {L xs M} (h : Y L xs M) : e_ob M 104 8 := h.ob 104 8 (by decide) (by decide) rfl
theorem ya105 {L xs M} (h : Y L xs M) (i : Int32) : e_ar M 105 20 i ↔ vp_in i 4 := h.ar 105 20 4 i (by decide) (by decide) rfl
theorem yi105 {L xs M} (h : Y L xs M) (i : Int32) : e_ai M 105 i ↔ vp_in i 4 := h.ai 105 4 i (by decide) (by decide) rfl
theorem yo106 {L xs M} (h : Y L xs M) : e_ob M 106 8 := h.ob 106 8 (by decide) (by decide) rfl
theorem ya107 {L xs M} (h : Y L xs M) (i : Int32) : e_ar M 107 20 i ↔ vp_in i 4 := h.ar 107 20 4 i (by decide) (by decide) rfl
theorem yi107 {L xs M} (h : Y L xs M) (i : Int32) : e_ai M 107 i ↔ vp_in i 4 := h.ai 107 4 i (by decide) (by decide) rfl
theorem yo108 {L xs M} (h : Y L xs M) : e_ob M 108 8 := h.ob 108 8 (by decide) (by decide) rfl
theorem ya109 {L xs M} (h : Y L xs M) (i : Int32) : e_ar M 109 20 i ↔ vp_in i 4 := h.ar 109 20 4 i (by decide) (by decide) rfl
theorem yi109 {L xs M} (h : Y L xs M) (i : Int32) : e_ai M 109 i ↔ vp_in i 4 := h.ai 109 4 i (by decide) (by decide) rfl
theorem yo110 {L xs M} (h : Y L xs M) : e_ob M 110 8 := h.ob 110 8 (by decide) (by decide) rfl
theorem ya111 {L xs M} (h : Y L xs M) (i : Int32) : e_ar M 111 20 i ↔ vp_in i 4 := h.ar 111 20 4 i (by decide) (by decide) rfl
theorem yi111 {L xs M} (h : Y L xs M) (i : Int32) : e_ai M 111 i ↔ vp_in i 4 := h.ai 111 4 i (by decide) (by decide) rfl
theorem yo112 {L xs M} (h : Y L xs M) : e_ob M 112 8 := h.ob 112 8 (by decide) (by decide) rfl
theorem ya113 {L xs M} (h : Y L xs M) (i : Int32) : e_ar M 113 20 i ↔ vp_in i 4 := h.ar 113 20 4 i (by decide) (by decide) rfl
theorem yi113 {L xs M} (h : Y L xs M) (i : Int32) : e_ai M 113 i ↔ vp_in i 4 := h.ai 113 4 i (by decide) (by decide) rfl
theorem yo114 {L xs M} (h : Y L xs M) : e_ob M 114 8 := h.ob 114 8 (by decide) (by decide) rfl
theorem ya115 {L xs M} (h : Y L xs M) (i : Int32) : e_ar M 115 20 i ↔ vp_in i 4 := h.ar 115 20 4 i (by decide) (by decide) rfl
theorem yi115 {L xs M} (h : Y L xs M) (i : Int32) : e_ai M 115 i ↔ vp_in i 4 := h.ai 115 4 i (by decide) (by decide) rfl
theorem yo116 {L xs M} (h : Y L xs M) : e_ob M 116 8 := h.ob 116 8 (by decide) (by decide) rfl
theorem ya117 {L xs M} (h : Y L xs M) (i : Int32) : e_ar M 117 20 i ↔ vp_in i 4 := h.ar 117 20 4 i (by decide) (by decide) rfl
theorem yi117 {L xs M} (h : Y L xs M) (i : Int32) : e_ai M 117 i ↔ vp_in i 4 := h.ai 117 4 i (by decide) (by decide) rfl
theorem yo118 {L xs M} (h : Y L xs M) : e_ob M 118 8 := h.ob 118 8 (by decide) (by decide) rfl
theorem ya119 {L xs M} (h : Y L xs M) (i : Int32) : e_ar M 119 20 i ↔ vp_in i 4 := h.ar 119 20 4 i (by decide) (by decide) rfl
theorem yi119 {L xs M} (h : Y L xs M) (i : Int32) : e_ai M 119 i ↔ vp_in i 4 := h.ai 119 4 i (by decide) (by decide) rfl
theorem ya120 {L xs M} (h : Y L xs M) (i : Int32) : e_ar M 120 24 i ↔ vp_in i 16 := h.ar 120 24 16 i (by decide) (by decide) rfl
theorem yo121 {L xs M} (h : Y L xs M) : e_ob M 121 8 := h.ob 121 8 (by decide) (by decide) rfl
theorem ya122 {L xs M} (h : Y L xs M) (i : Int32) : e_ar M 122 20 i ↔ vp_in i 4 := h.ar 122 20 4 i (by decide) (by decide) rfl
theorem yi122 {L xs M} (h : Y L xs M) (i : Int32) : e_ai M 122 i ↔ vp_in i 4 := h.ai 122 4 i (by decide) (by decide) rfl
theorem yo123 {L xs M} (h : Y L xs M) : e_ob M 123 8 := h.ob 123 8 (by decide) (by decide) rfl
theorem ya124 {L xs M} (h : Y L xs M) (i : Int32) : e_ar M 124 20 i ↔ vp_in i 4 := h.ar 124 20 4 i (by decide) (by decide) rfl
theorem yi124 {L xs M} (h : Y L xs M) (i : Int32) : e_ai M 124 i ↔ vp_in i 4 := h.ai 124 4 i (by decide) (by decide) rfl
theorem yo125 {L xs M} (h : Y L xs M) : e_ob M 125 8 := h.ob 125 8 (by decide) (by decide) rfl
theorem ya126 {L xs M} (h : Y L xs M) (i : Int32) : e_ar M 126 20 i ↔ vp_in i 4 := h.ar 126 20 4 i (by decide) (by decide) rfl
theorem yi126 {L xs M} (h : Y L xs M) (i : Int32) : e_ai M 126 i ↔ vp_in i 4 := h.ai 126 4 i (by decide) (by decide) rfl
theorem yo127 {L xs M} (h : Y L xs M) : e_ob M 127 8 := h.ob 127 8 (by decide) (by decide) rfl
theorem ya128 {L xs M} (h : Y L xs M) (i : Int32) : e_ar M 128 20 i ↔ vp_in i 4 := h.ar 128 20 4 i (by decide) (by decide) rfl
theorem yi128 {L xs M} (h : Y L xs M) (i : Int32) : e_ai M 128 i ↔ vp_in i 4 := h.ai 128 4 i (by decide) (by decide) rfl
theorem yo129 {L xs M} (h : Y L xs M) : e_ob M 129 8 := h.ob 129 8 (by decide) (by decide) rfl
theorem ya130 {L xs M} (h : Y L xs M) (i : Int32) : e_ar M 130 20 i ↔ vp_in i 4 := h.ar 130 20 4 i (by decide) (by decide) rfl
theorem yi130 {L xs M} (h : Y L xs M) (i : Int32) : e_ai M 130 i ↔ vp_in i 4 := h.ai 130 4 i (by decide) (by decide) rfl
theorem yo131 {L xs M} (h : Y L xs M) : e_ob M 131 8 := h.ob 131 8 (by decide) (by decide) rfl
theorem ya132 {L xs M} (h : Y L xs M) (i : Int32) : e_ar M 132 20 i ↔ vp_in i 4 := h.ar 132 20 4 i (by decide) (by decide) rfl
theorem yi132 {L xs M} (h : Y L xs M) (i : Int32) : e_ai M 132 i ↔ vp_in i 4 := h.ai 132 4 i (by decide) (by decide) rfl
theorem yo133 {L xs M} (h : Y L xs M) : e_ob M 133 8 := h.ob 133 8 (by decide) (by decide) rfl
theorem ya134 {L xs M} (h : Y L xs M) (i : Int32) : e_ar M 134 20 i ↔ vp_in i 4 := h.ar 134 20 4 i (by decide) (by decide) rfl
theorem yi134 {L xs M} (h : Y L xs M) (i : Int32) : e_ai M 134 i ↔ vp_in i 4 := h.ai 134 4 i (by decide) (by decide) rfl
theorem yo135 {L xs M} (h : Y L xs M) : e_ob M 135 8 := h.ob 135 8 (by decide) (by decide) rfl
theorem ya136 {L xs M} (h : Y L xs M) (i : Int32) : e_ar M 136 20 i ↔ vp_in i 4 := h.ar 136 20 4 i (by decide) (by decide) rfl
theorem yi136 {L xs M} (h : Y L xs M) (i : Int32) : e_ai M 136 i ↔ vp_in i 4 := h.ai 136 4 i (by decide) (by decide) rfl
theorem yo137 {L xs M} (h : Y L xs M) : e_ob M 137 8 := h.ob 137 8 (by decide) (by decide) rfl
theorem ya138 {L xs M} (h : Y L xs M) (i : Int32) : e_ar M 138 20 i ↔ vp_in i 4 := h.ar 138 20 4 i (by decide) (by decide) rfl
theorem yi138 {L xs M} (h : Y L xs M) (i : Int32) : e_ai M 138 i ↔ vp_in i 4 := h.ai 138 4 i (by decide) (by decide) rfl
theorem yo139 {L xs M} (h : Y L xs M) : e_ob M 139 8 := h.ob 139 8 (by decide) (by decide) rfl
theorem ya140 {L xs M} (h : Y L xs M) (i : Int32) : e_ar M 140 20 i ↔ vp_in i 4 := h.ar 140 20 4 i (by decide) (by decide) rfl
theorem yi140 {L xs M} (h : Y L xs M) (i : Int32) : e_ai M 140 i ↔ vp_in i 4 := h.ai 140 4 i (by decide) (by decide) rfl
theorem yo141 {L xs M} (h : Y L xs M) : e_ob M 141 8 := h.ob 141 8 (by decide) (by decide) rfl
theorem ya142 {L xs M} (h : Y L xs M) (i : Int32) : e_ar M 142 20 i ↔ vp_in i 4 := h.ar 142 20 4 i (by decide) (by decide) rfl
theorem yi142 {L xs M} (h : Y L xs M) (i : Int32) : e_ai M 142 i ↔ vp_in i 4 := h.ai 142 4 i (by decide) (by decide) rfl
theorem yo143 {L xs M} (h : Y L xs M) : e_ob M 143 8 := h.ob 143 8 (by decide) (by decide) rfl
theorem ya144 {L xs M} (h : Y L xs M) (i : Int32) : e_ar M 144 20 i ↔ vp_in i 4 := h.ar 144 20 4 i (by decide) (by decide) rfl
theorem yi144 {L xs M} (h : Y L xs M) (i : Int32) : e_ai M 144 i ↔ vp_in i 4 := h.ai 144 4 i (by decide) (by decide) rfl
theorem yo145 {L xs M} (h : Y L xs M) : e_ob M 145 8 := h.ob 145 8 (by decide) (by decide) rfl
theorem ya146 {L xs M} (h : Y L xs M) (i : Int32) : e_ar M 146 20 i ↔ vp_in i 4 := h.ar 146 20 4 i (by decide) (by decide) rfl
theorem yi146 {L xs M} (h : Y L xs M) (i : Int32) : e_ai M 146 i ↔ vp_in i 4 := h.ai 146 4 i (by decide) (by decide) rfl
theorem yo147 {L xs M} (h : Y L xs M) : e_ob M 147 8 := h.ob 147 8 (by decide) (by decide) rfl
theorem ya148 {L xs M} (h : Y L xs M) (i : Int32) : e_ar M 148 20 i ↔ vp_in i 4 := h.ar 148 20 4 i (by decide) (by decide) rfl
theorem yi148 {L xs M} (h : Y L xs M) (i : Int32) : e_ai M 148 i ↔ vp_in i 4 := h.ai 148 4 i (by decide) (by decide) rfl
theorem yo149 {L xs M} (h : Y L xs M) : e_ob M 149 8 := h.ob 149 8 (by decide) (by decide) rfl
theorem ya150 {L xs M} (h : Y L xs M) (i : Int32) : e_ar M 150 20 i ↔ vp_in i 4 := h.ar 150 20 4 i (by decide) (by decide) rfl
theorem yi150 {L xs M} (h : Y L xs M) (i : Int32) : e_ai M 150 i ↔ vp_in i 4 := h.ai 150 4 i (by decide) (by decide) rfl
theorem yo151 {L xs M} (h : Y L xs M) : e_ob M 151 8 := h.ob 151 8 (by decide) (by decide) rfl
theorem ya152 {L xs M} (h : Y L xs M) (i : Int32) : e_ar M 152 20 i ↔ vp_in i 4 := h.ar 152 20 4 i (by decide) (by decide) rfl
theorem yi152 {L xs M} (h : Y L xs M) (i : Int32) : e_ai M 152 i ↔ vp_in i 4 := h.ai 152 4 i (by decide) (by decide) rfl
theorem ya153 {L xs M} (h : Y L xs M) (i : Int32) : e_ar M 153 20 i ↔ vp_in i 64 := h.ar 153 20 64 i (by decide) (by decide) rfl
theorem yi153 {L xs M} (h : Y L xs M) (i : Int32) : e_ai M 153 i ↔ vp_in i 64 := h.ai 153 64 i (by decide) (by decide) rfl
theorem ya154 {L xs M} (h : Y L xs M) (i : Int32) : e_ar M 154 20 i ↔ vp_in i 1500 := h.ar 154 20 1500 i (by decide) (by decide) rfl
theorem yi154 {L xs M} (h : Y L xs M) (i : Int32) : e_ai M 154 i ↔ vp_in i 1500 := h.ai 154 1500 i (by decide) (by decide) rfl
theorem ya155 {L xs M} (h : Y L xs M) (i : Int32) : e_ar M 155 20 i ↔ vp_in i 1500 := h.ar 155 20 1500 i (by decide) (by decide) rfl
theorem yi155 {L xs M} (h : Y L xs M) (i : Int32) : e_ai M 155 i ↔ vp_in i 1500 := h.ai 155 1500 i (by decide) (by decide) rfl
theorem ya156 {L xs M} (h : Y L xs M) (i : Int32) : e_ar M 156 20 i ↔ vp_in i 1500 := h.ar 156 20 1500 i (by decide) (by decide) rfl
theorem yi156 {L xs M} (h : Y L xs M) (i : Int32) : e_ai M 156 i ↔ vp_in i 1500 := h.ai 156 1500 i (by decide) (by decide) rfl
theorem ya157 {L xs M} (h : Y L xs M) (i : Int32) : e_ar M 157 21 i ↔ vp_in i 1500 := h.ar 157 21 1500 i (by decide) (by decide) rfl
theorem ya158 {L xs M} (h : Y L xs M) (i : Int32) : e_ar M 158 21 i ↔ vp_in i 1500 := h.ar 158 21 1500 i (by decide) (by decide) rfl
theorem yo159 {L xs M} (h : Y L xs M) : e_ob M 159 12 := h.ob 159 12 (by decide) (by decide) rfl
theorem ya160 {L xs M} (h : Y L xs M) (i : Int32) : e_ar M 160 20 i ↔ vp_in i 1500 := h.ar 160 20 1500 i (by decide) (by decide) rfl
theorem yi160 {L xs M} (h : Y L xs M) (i : Int32) : e_ai M 160 i ↔ vp_in i 1500 := h.ai 160 1500 i (by decide) (by decide) rfl
theorem ya161 {L xs M} (h : Y L xs M) (i : Int32) : e_ar M 161 20 i ↔ vp_in i 1500 := h.ar 161 20 1500 i (by decide) (by decide) rfl
theorem yi161 {L xs M} (h : Y L xs M) (i : Int32) : e_ai M 161 i ↔ vp_in i 1500 := h.ai 161 1500 i (by decide) (by decide) rfl
theorem ya162 {L xs M} (h : Y L xs M) (i : Int32) : e_ar M 162 20 i ↔ vp_in i 1500 := h.ar 162 20 1500 i (by decide) (by decide) rfl
theorem yi162 {L xs M} (h : Y L xs M) (i : Int32) : e_ai M 162 i ↔ vp_in i 1500 := h.ai 162 1500 i (by decide) (by decide) rfl
theorem ya163 {L xs M} (h : Y L xs M) (i : Int32) : e_ar M 163 20 i ↔ vp_in i 8 := h.ar 163 20 8 i (by decide) (by decide) rfl
theorem yi163 {L xs M} (h : Y L xs M) (i : Int32) : e_ai M 163 i ↔ vp_in i 8 := h.ai 163 8 i (by decide) (by decide) rfl
theorem ya164 {L xs M} (h : Y L xs M) (i : Int32) : e_ar M 164 20 i ↔ vp_in i 8 := h.ar 164 20 8 i (by decide) (by decide) rfl
theorem yi164 {L xs M} (h : Y L xs M) (i : Int32) : e_ai M 164 i ↔ vp_in i 8 := h.ai 164 8 i (by decide) (by decide) rfl
theorem ya165 {L xs M} (h : Y L xs M) (i : Int32) : e_ar M 165 20 i ↔ vp_in i 64 := h.ar 165 20 64 i (by decide) (by decide) rfl
theorem yi165 {L xs M} (h : Y L xs M) (i : Int32) : e_ai M 165 i ↔ vp_in i 64 := h.ai 165 64 i (by decide) (by decide) rfl
theorem ya166 {L xs M} (h : Y L xs M) (i : Int32) : e_ar M 166 20 i ↔ vp_in i 8 := h.ar 166 20 8 i (by decide) (by decide) rfl
theorem yi166 {L xs M} (h : Y L xs M) (i : Int32) : e_ai M 166 i ↔ vp_in i 8 := h.ai 166 8 i (by decide) (by decide) rfl
theorem ya167 {L xs M} (h : Y L xs M) (i : Int32) : e_ar M 167 20 i ↔ vp_in i 24 := h.ar 167 20 24 i (by decide) (by decide) rfl
theorem yi167 {L xs M} (h : Y L xs M) (i : Int32) : e_ai M 167 i ↔ vp_in i 24 := h.ai 167 24 i (by decide) (by decide) rfl
theorem ya168 {L xs M} (h : Y L xs M) (i : Int32) : e_ar M 168 20 i ↔ vp_in i 8 := h.ar 168 20 8 i (by decide) (by decide) rfl
theorem yi168 {L xs M} (h : Y L xs M) (i : Int32) : e_ai M 168 i ↔ vp_in i 8 := h.ai 168 8 i (by decide) (by decide) rfl
theorem ya169 {L xs M} (h : Y L xs M) (i : Int32) : e_ar M 169 20 i ↔ vp_in i 16 := h.ar 169 20 16 i (by decide) (by decide) rfl
theorem yi169 {L xs M} (h : Y L xs M) (i : Int32) : e_ai M 169 i ↔ vp_in i 16 := h.ai 169 16 i (by decide) (by decide) rfl
theorem ya170 {L xs M} (h : Y L xs M) (i : Int32) : e_ar M 170 20 i ↔ vp_in i 64 := h.ar 170 20 64 i (by decide) (by decide) rfl
theorem yi170 {L xs M} (h : Y L xs M) (i : Int32) : e_ai M 170 i ↔ vp_in i 64 := h.ai 170 64 i (by decide) (by decide) rfl
theorem ya171 {L xs M} (h : Y L xs M) (i : Int32) : e_ar M 171 20 i ↔ vp_in i 16 := h.ar 171 20 16 i (by decide) (by decide) rfl
theorem yi171 {L xs M} (h : Y L xs M) (i : Int32) : e_ai M 171 i ↔ vp_in i 16 := h.ai 171 16 i (by decide) (by decide) rfl
theorem ya172 {L xs M} (h : Y L xs M) (i : Int32) : e_ar M 172 20 i ↔ vp_in i 16 := h.ar 172 20 16 i (by decide) (by decide) rfl
theorem yi172 {L xs M} (h : Y L xs M) (i : Int32) : e_ai M 172 i ↔ vp_in i 16 := h.ai 172 16 i (by decide) (by decide) rfl
theorem ya173 {L xs M} (h : Y L xs M) (i : Int32) : e_ar M 173 20 i ↔ vp_in i 16 := h.ar 173 20 16 i (by decide) (by decide) rfl
theorem yi173 {L xs M} (h : Y L xs M) (i : Int32) : e_ai M 173 i ↔ vp_in i 16 := h.ai 173 16 i (by decide) (by decide) rfl
theorem ya174 {L xs M} (h : Y L xs M) (i : Int32) : e_ar M 174 20 i ↔ vp_in i 16 := h.ar 174 20 16 i (by decide) (by decide) rfl
theorem yi174 {L xs M} (h : Y L xs M) (i : Int32) : e_ai M 174 i ↔ vp_in i 16 := h.ai 174 16 i (by decide) (by decide) rfl
theorem ya175 {L xs M} (h : Y L xs M) (i : Int32) : e_ar M 175 20 i ↔ vp_in i 1920 := h.ar 175 20 1920 i (by decide) (by decide) rfl
theorem yi175 {L xs M} (h : Y L xs M) (i : Int32) : e_ai M 175 i ↔ vp_in i 1920 := h.ai 175 1920 i (by decide) (by decide) rfl
theorem ya176 {L xs M} (h : Y L xs M) (i : Int32) : e_ar M 176 22 i ↔ vp_in i 1920 := h.ar 176 22 1920 i (by decide) (by decide) rfl
theorem ya177 {L xs M} (h : Y L xs M) (i : Int32) : e_ar M 177 20 i ↔ vp_in i 64 := h.ar 177 20 64 i (by decide) (by decide) rfl
theorem yi177 {L xs M} (h : Y L xs M) (i : Int32) : e_ai M 177 i ↔ vp_in i 64 := h.ai 177 64 i (by decide) (by decide) rfl
theorem ya178 {L xs M} (h : Y L xs M) (i : Int32) : e_ar M 178 20 i ↔ vp_in i 1920 := h.ar 178 20 1920 i (by decide) (by decide) rfl
theorem yi178 {L xs M} (h : Y L xs M) (i : Int32) : e_ai M 178 i ↔ vp_in i 1920 := h.ai 178 1920 i (by decide) (by decide) rfl
theorem ya179 {L xs M} (h : Y L xs M) (i : Int32) : e_ar M 179 20 i ↔ vp_in i 30720 := h.ar 179 20 30720 i (by decide) (by decide) rfl
theorem yi179 {L xs M} (h : Y L xs M) (i : Int32) : e_ai M 179 i ↔ vp_in i 30720 := h.ai 179 30720 i (by decide) (by decide) rfl
theorem ya180 {L xs M} (h : Y L xs M) (i : Int32) : e_ar M 180 20 i ↔ vp_in i 16 := h.ar 180 20 16 i (by decide) (by decide) rfl
theorem yi180 {L xs M} (h : Y L xs M) (i : Int32) : e_ai M 180 i ↔ vp_in i 16 := h.ai 180 16 i (by decide) (by decide) rfl
theorem ya181 {L xs M} (h : Y L xs M) (i : Int32) : e_ar M 181 20 i ↔ vp_in i 100 := h.ar 181 20 100 i (by decide) (by decide) rfl
theorem yi181 {L xs M} (h : Y L xs M) (i : Int32) : e_ai M 181 i ↔ vp_in i 100 := h.ai 181 100 i (by decide) (by decide) rfl
theorem ya182 {L xs M} (h : Y L xs M) (i : Int32) : e_ar M 182 20 i ↔ vp_in i 500 := h.ar 182 20 500 i (by decide) (by decide) rfl
theorem yi182 {L xs M} (h : Y L xs M) (i : Int32) : e_ai M 182 i ↔ vp_in i 500 := h.ai 182 500 i (by decide) (by decide) rfl
theorem ya183 {L xs M} (h : Y L xs M) (i : Int32) : e_ar M 183 20 i ↔ vp_in i 16 := h.ar 183 20 16 i (by decide) (by decide) rfl
theorem yi183 {L xs M} (h : Y L xs M) (i : Int32) : e_ai M 183 i ↔ vp_in i 16 := h.ai 183 16 i (by decide) (by decide) rfl
theorem ya184 {L xs M} (h : Y L xs M) (i : Int32) : e_ar M 184 20 i ↔ vp_in i 16 := h.ar 184 20 16 i (by decide) (by decide) rfl
theorem yi184 {L xs M} (h : Y L xs M) (i : Int32) : e_ai M 184 i ↔ vp_in i 16 := h.ai 184 16 i (by decide) (by decide) rfl
theorem ya185 {L xs M} (h : Y L xs M) (i : Int32) : e_ar M 185 20 i ↔ vp_in i 15360 := h.ar 185 20 15360 i (by decide) (by decide) rfl
theorem yi185 {L xs M} (h : Y L xs M) (i : Int32) : e_ai M 185 i ↔ vp_in i 15360 := h.ai 185 15360 i (by decide) (by decide) rfl
theorem ya186 {L xs M} (h : Y L xs M) (i : Int32) : e_ar M 186 20 i ↔ vp_in i 1500 := h.ar 186 20 1500 i (by decide) (by decide) rfl
theorem yi186 {L xs M} (h : Y L xs M) (i : Int32) : e_ai M 186 i ↔ vp_in i 1500 := h.ai 186 1500 i (by decide) (by decide) rfl
theorem ya187 {L xs M} (h : Y L xs M) (i : Int32) : e_ar M 187 20 i ↔ vp_in i 101 := h.ar 187 20 101 i (by decide) (by decide) rfl
theorem yi187 {L xs M} (h : Y L xs M) (i : Int32) : e_ai M 187 i ↔ vp_in i 101 := h.ai 187 101 i (by decide) (by decide) rfl
theorem ya188 {L xs M} (h : Y L xs M) (i : Int32) : e_ar M 188 20 i ↔ vp_in i 101 := h.ar 188 20 101 i (by decide) (by decide) rfl
theorem yi188 {L xs M} (h : Y L xs M) (i : Int32) : e_ai M 188 i ↔ vp_in i 101 := h.ai 188 101 i (by decide) (by decide) rfl
theorem ya189 {L xs M} (h : Y L xs M) (i : Int32) : e_ar M 189 20 i ↔ vp_in i 180600 := h.ar 189 20 180600 i (by decide) (by decide) rfl
theorem yi189 {L xs M} (h : Y L xs M) (i : Int32) : e_ai M 189 i ↔ vp_in i 180600 := h.ai 189 180600 i (by decide) (by decide) rfl
theorem ya190 {L xs M} (h : Y L xs M) (i : Int32) : e_ar M 190 20 i ↔ vp_in i 64 := h.ar 190 20 64 i (by decide) (by decide) rfl
theorem yi190 {L xs M} (h : Y L xs M) (i : Int32) : e_ai M 190 i ↔ vp_in i 64 := h.ai 190 64 i (by decide) (by decide) rfl
theorem ya191 {L xs M} (h : Y L xs M) (i : Int32) : e_ar M 191 20 i ↔ vp_in i 64 := h.ar 191 20 64 i (by decide) (by decide) rfl
theorem yi191 {L xs M} (h : Y L xs M) (i : Int32) : e_ai M 191 i ↔ vp_in i 64 := h.ai 191 64 i (by decide) (by decide) rfl
theorem ya192 {L xs M} (h : Y L xs M) (i : Int32) : e_ar M 192 20 i ↔ vp_in i 64 := h.ar 192 20 64 i (by decide) (by decide) rfl
theorem yi192 {L xs M} (h : Y L xs M) (i : Int32) : e_ai M 192 i ↔ vp_in i 64 := h.ai 192 64 i (by decide) (by decide) rfl
theorem ya193 {L xs M} (h : Y L xs M) (i : Int32) : e_ar M 193 20 i ↔ vp_in i 64 := h.ar 193 20 64 i (by decide) (by decide) rfl
theorem yi193 {L xs M} (h : Y L xs M) (i : Int32) : e_ai M 193 i ↔ vp_in i 64 := h.ai 193 64 i (by decide) (by decide) rfl
theorem ya194 {L xs M} (h : Y L xs M) (i : Int32) : e_ar M 194 20 i ↔ vp_in i 64 := h.ar 194 20 64 i (by decide) (by decide) rfl
theorem yi194 {L xs M} (h : Y L xs M) (i : Int32) : e_ai M 194 i ↔ vp_in i 64 := h.ai 194 64 i (by decide) (by decide) rfl
theorem ya195 {L xs M} (h : Y L xs M) (i : Int32) : e_ar M 195 20 i ↔ vp_in i 64 := h.ar 195 20 64 i (by decide) (by decide) rfl
theorem yi195 {L xs M} (h : Y L xs M) (i : Int32) : e_ai M 195 i ↔ vp_in i 64 := h.ai 195 64 i (by decide) (by decide) rfl
theorem ya196 {L xs M} (h : Y L xs M) (i : Int32) : e_ar M 196 20 i ↔ vp_in i 64 := h.ar 196 20 64 i (by decide) (by decide) rfl
theorem yi196 {L xs M} (h : Y L xs M) (i : Int32) : e_ai M 196 i ↔ vp_in i 64 := h.ai 196 64 i (by decide) (by decide) rfl
theorem ya197 {L xs M} (h : Y L xs M) (i : Int32) : e_ar M 197 20 i ↔ vp_in i 512 := h.ar 197 20 512 i (by decide) (by decide) rfl
theorem yi197 {L xs M} (h : Y L xs M) (i : Int32) : e_ai M 197 i ↔ vp_in i 512 := h.ai 197 512 i (by decide) (by decide) rfl
theorem ya198 {L xs M} (h : Y L xs M) (i : Int32) : e_ar M 198 20 i ↔ vp_in i 512 := h.ar 198 20 512 i (by decide) (by decide) rfl
theorem yi198 {L xs M} (h : Y L xs M) (i : Int32) : e_ai M 198 i ↔ vp_in i 512 := h.ai 198 512 i (by decide) (by decide) rfl
theorem ya199 {L xs M} (h : Y L xs M) (i : Int32) : e_ar M 199 20 i ↔ vp_in i 2100 := h.ar 199 20 2100 i (by decide) (by decide) rfl
theorem yi199 {L xs M} (h : Y L xs M) (i : Int32) : e_ai M 199 i ↔ vp_in i 2100 := h.ai 199 2100 i (by decide) (by decide) rfl
theorem ya200 {L xs M} (h : Y L xs M) (i : Int32) : e_ar M 200 20 i ↔ vp_in i 2100 := h.ar 200 20 2100 i (by decide) (by decide) rfl
theorem yi200 {L xs M} (h : Y L xs M) (i : Int32) : e_ai M 200 i ↔ vp_in i 2100 := h.ai 200 2100 i (by decide) (by decide) rfl
theorem ya201 {L xs M} (h : Y L xs M) (i : Int32) : e_ar M 201 20 i ↔ vp_in i 2100 := h.ar 201 20 2100 i (by decide) (by decide) rfl
theorem yi201 {L xs M} (h : Y L xs M) (i : Int32) : e_ai M 201 i ↔ vp_in i 2100 := h.ai 201 2100 i (by decide) (by decide) rfl
theorem ya202 {L xs M} (h : Y L xs M) (i : Int32) : e_ar M 202 20 i ↔ vp_in i 2100 := h.ar 202 20 2100 i (by decide) (by decide) rfl
theorem yi202 {L xs M} (h : Y L xs M) (i : Int32) : e_ai M 202 i ↔ vp_in i 2100 := h.ai 202 2100 i (by decide) (by decide) rfl
theorem ya203 {L xs M} (h : Y L xs M) (i : Int32) : e_ar M 203 22 i ↔ vp_in i 2100 := h.ar 203 22 2100 i (by decide) (by decide) rfl
theorem ya204 {L xs M} (h : Y L xs M) (i : Int32) : e_ar M 204 20 i ↔ vp_in i 4100 := h.ar 204 20 4100 i (by decide) (by decide) rfl
theorem yi204 {L xs M} (h : Y L xs M) (i : Int32) : e_ai M 204 i ↔ vp_in i 4100 := h.ai 204 4100 i (by decide) (by decide) rfl
theorem ya205 {L xs M} (h : Y L xs M) (i : Int32) : e_ar M 205 20 i ↔ vp_in i 6 := h.ar 205 20 6 i (by decide) (by decide) rfl
theorem yi205 {L xs M} (h : Y L xs M) (i : Int32) : e_ai M 205 i ↔ vp_in i 6 := h.ai 205 6 i (by decide) (by decide) rfl
theorem ya206 {L xs M} (h : Y L xs M) (i : Int32) : e_ar M 206 20 i ↔ vp_in i 6 := h.ar 206 20 6 i (by decide) (by decide) rfl
theorem yi206 {L xs M} (h : Y L xs M) (i : Int32) : e_ai M 206 i ↔ vp_in i 6 := h.ai 206 6 i (by decide) (by decide) rfl
theorem ya207 {L xs M} (h : Y L xs M) (i : Int32) : e_ar M 207 20 i ↔ vp_in i 6 := h.ar 207 20 6 i (by decide) (by decide) rfl
theorem yi207 {L xs M} (h : Y L xs M) (i : Int32) : e_ai M 207 i ↔ vp_in i 6 := h.ai 207 6 i (by decide) (by decide) rfl
theorem ya208 {L xs M} (h : Y L xs M) (i : Int32) : e_ar M 208 20 i ↔ vp_in i 2100 := h.ar 208 20 2100 i (by decide) (by decide) rfl
theorem yi208 {L xs M} (h : Y L xs M) (i : Int32) : e_ai M 208 i ↔ vp_in i 2100 := h.ai 208 2100 i (by decide) (by decide) rfl
theorem ya209 {L xs M} (h : Y L xs M) (i : Int32) : e_ar M 209 21 i ↔ vp_in i 1 := h.ar 209 21 1 i (by decide) (by decide) rfl
theorem yr8_0 {L xs M} (h : Y L xs M) : gr M 8 0 = 9 := h.r 8 0 9 (List.mem_of_getElem? (i := 0) rfl)
theorem yr8_1 {L xs M} (h : Y L xs M) : gr M 8 1 = 10 := h.r 8 1 10 (List.mem_of_getElem? (i := 1) rfl)
theorem yr11_2 {L xs M} (h : Y L xs M) : gr M 11 2 = 12 := h.r 11 2 12 (List.mem_of_getElem? (i := 2) rfl)
theorem yr8_2 {L xs M} (h : Y L xs M) : gr M 8 2 = 11 := h.r 8 2 11 (List.mem_of_getElem? (i := 3) rfl)
theorem yr14_1 {L xs M} (h : Y L xs M) : gr M 14 1 = 15 := h.r 14 1 15 (List.mem_of_getElem? (i := 4) rfl)
theorem yr14_2 {L xs M} (h : Y L xs M) : gr M 14 2 = 16 := h.r 14 2 16 (List.mem_of_getElem? (i := 5) rfl)
theorem yr14_3 {L xs M} (h : Y L xs M) : gr M 14 3 = 17 := h.r 14 3 17 (List.mem_of_getElem? (i := 6) rfl)
theorem yr14_4 {L xs M} (h : Y L xs M) : gr M 14 4 = 18 := h.r 14 4 18 (List.mem_of_getElem? (i := 7) rfl)
theorem yr14_5 {L xs M} (h : Y L xs M) : gr M 14 5 = 19 := h.r 14 5 19 (List.mem_of_getElem? (i := 8) rfl)
theorem yr14_6 {L xs M} (h : Y L xs M) : gr M 14 6 = 20 := h.r 14 6 20 (List.mem_of_getElem? (i := 9) rfl)
theorem yr14_7 {L xs M} (h : Y L xs M) : gr M 14 7 = 21 := h.r 14 7 21 (List.mem_of_getElem? (i := 10) rfl)
theorem yr13_0 {L xs M} (h : Y L xs M) : gr M 13 0 = 14 := h.r 13 0 14 (List.mem_of_getElem? (i := 11) rfl)
theorem yr13_1 {L xs M} (h : Y L xs M) : gr M 13 1 = 22 := h.r 13 1 22 (List.mem_of_getElem? (i := 12) rfl)
theorem yr25_4 {L xs M} (h : Y L xs M) : gr M 25 4 = 26 := h.r 25 4 26 (List.mem_of_getElem? (i := 13) rfl)
theorem yr25_5 {L xs M} (h : Y L xs M) : gr M 25 5 = 27 := h.r 25 5 27 (List.mem_of_getElem? (i := 14) rfl)
theorem yr25_6 {L xs M} (h : Y L xs M) : gr M 25 6 = 28 := h.r 25 6 28 (List.mem_of_getElem? (i := 15) rfl)
theorem yr25_8 {L xs M} (h : Y L xs M) : gr M 25 8 = 29 := h.r 25 8 29 (List.mem_of_getElem? (i := 16) rfl)
theorem yr25_9 {L xs M} (h : Y L xs M) : gr M 25 9 = 30 := h.r 25 9 30 (List.mem_of_getElem? (i := 17) rfl)
theorem yr13_2 {L xs M} (h : Y L xs M) : gr M 13 2 = 25 := h.r 13 2 25 (List.mem_of_getElem? (i := 18) rfl)
theorem yr31_1 {L xs M} (h : Y L xs M) : gr M 31 1 = 32 := h.r 31 1 32 (List.mem_of_getElem? (i := 19) rfl)
theorem yr13_3 {L xs M} (h : Y L xs M) : gr M 13 3 = 31 := h.r 13 3 31 (List.mem_of_getElem? (i := 20) rfl)
theorem yr13_4 {L xs M} (h : Y L xs M) : gr M 13 4 = 33 := h.r 13 4 33 (List.mem_of_getElem? (i := 21) rfl)
theorem yr13_12 {L xs M} (h : Y L xs M) : gr M 13 12 = 34 := h.r 13 12 34 (List.mem_of_getElem? (i := 22) rfl)
theorem yr8_3 {L xs M} (h : Y L xs M) : gr M 8 3 = 13 := h.r 8 3 13 (List.mem_of_getElem? (i := 23) rfl)
theorem yr35_0 {L xs M} (h : Y L xs M) : gr M 35 0 = 36 := h.r 35 0 36 (List.mem_of_getElem? (i := 24) rfl)
theorem yr35_3 {L xs M} (h : Y L xs M) : gr M 35 3 = 37 := h.r 35 3 37 (List.mem_of_getElem? (i := 25) rfl)
theorem yr35_4 {L xs M} (h : Y L xs M) : gr M 35 4 = 38 := h.r 35 4 38 (List.mem_of_getElem? (i := 26) rfl)
theorem yr35_5 {L xs M} (h : Y L xs M) : gr M 35 5 = 39 := h.r 35 5 39 (List.mem_of_getElem? (i := 27) rfl)
theorem yr35_6 {L xs M} (h : Y L xs M) : gr M 35 6 = 40 := h.r 35 6 40 (List.mem_of_getElem? (i := 28) rfl)
theorem yr35_8 {L xs M} (h : Y L xs M) : gr M 35 8 = 41 := h.r 35 8 41 (List.mem_of_getElem? (i := 29) rfl)
theorem yr42_0 {L xs M} (h : Y L xs M) : gr M 42 0 = 43 := h.r 42 0 43 (List.mem_of_getElem? (i := 30) rfl)
theorem yr41_0 {L xs M} (h : Y L xs M) : gr M 41 0 = 42 := h.r 41 0 42 (List.mem_of_getElem? (i := 31) rfl)
theorem yr44_0 {L xs M} (h : Y L xs M) : gr M 44 0 = 45 := h.r 44 0 45 (List.mem_of_getElem? (i := 32) rfl)
theorem yr41_1 {L xs M} (h : Y L xs M) : gr M 41 1 = 44 := h.r 41 1 44 (List.mem_of_getElem? (i := 33) rfl)
theorem yr46_0 {L xs M} (h : Y L xs M) : gr M 46 0 = 47 := h.r 46 0 47 (List.mem_of_getElem? (i := 34) rfl)
theorem yr41_2 {L xs M} (h : Y L xs M) : gr M 41 2 = 46 := h.r 41 2 46 (List.mem_of_getElem? (i := 35) rfl)
theorem yr48_0 {L xs M} (h : Y L xs M) : gr M 48 0 = 49 := h.r 48 0 49 (List.mem_of_getElem? (i := 36) rfl)
theorem yr41_3 {L xs M} (h : Y L xs M) : gr M 41 3 = 48 := h.r 41 3 48 (List.mem_of_getElem? (i := 37) rfl)
theorem yr50_0 {L xs M} (h : Y L xs M) : gr M 50 0 = 51 := h.r 50 0 51 (List.mem_of_getElem? (i := 38) rfl)
theorem yr41_4 {L xs M} (h : Y L xs M) : gr M 41 4 = 50 := h.r 41 4 50 (List.mem_of_getElem? (i := 39) rfl)
theorem yr52_0 {L xs M} (h : Y L xs M) : gr M 52 0 = 53 := h.r 52 0 53 (List.mem_of_getElem? (i := 40) rfl)
theorem yr41_5 {L xs M} (h : Y L xs M) : gr M 41 5 = 52 := h.r 41 5 52 (List.mem_of_getElem? (i := 41) rfl)
theorem yr54_0 {L xs M} (h : Y L xs M) : gr M 54 0 = 55 := h.r 54 0 55 (List.mem_of_getElem? (i := 42) rfl)
theorem yr41_6 {L xs M} (h : Y L xs M) : gr M 41 6 = 54 := h.r 41 6 54 (List.mem_of_getElem? (i := 43) rfl)
theorem yr56_0 {L xs M} (h : Y L xs M) : gr M 56 0 = 57 := h.r 56 0 57 (List.mem_of_getElem? (i := 44) rfl)
theorem yr41_7 {L xs M} (h : Y L xs M) : gr M 41 7 = 56 := h.r 41 7 56 (List.mem_of_getElem? (i := 45) rfl)
theorem yr35_10 {L xs M} (h : Y L xs M) : gr M 35 10 = 58 := h.r 35 10 58 (List.mem_of_getElem? (i := 46) rfl)
theorem yr59_0 {L xs M} (h : Y L xs M) : gr M 59 0 = 60 := h.r 59 0 60 (List.mem_of_getElem? (i := 47) rfl)
theorem yr58_0 {L xs M} (h : Y L xs M) : gr M 58 0 = 59 := h.r 58 0 59 (List.mem_of_getElem? (i := 48) rfl)
theorem yr61_0 {L xs M} (h : Y L xs M) : gr M 61 0 = 62 := h.r 61 0 62 (List.mem_of_getElem? (i := 49) rfl)
theorem yr58_1 {L xs M} (h : Y L xs M) : gr M 58 1 = 61 := h.r 58 1 61 (List.mem_of_getElem? (i := 50) rfl)
theorem yr63_0 {L xs M} (h : Y L xs M) : gr M 63 0 = 64 := h.r 63 0 64 (List.mem_of_getElem? (i := 51) rfl)
theorem yr58_2 {L xs M} (h : Y L xs M) : gr M 58 2 = 63 := h.r 58 2 63 (List.mem_of_getElem? (i := 52) rfl)
theorem yr65_0 {L xs M} (h : Y L xs M) : gr M 65 0 = 66 := h.r 65 0 66 (List.mem_of_getElem? (i := 53) rfl)
theorem yr58_3 {L xs M} (h : Y L xs M) : gr M 58 3 = 65 := h.r 58 3 65 (List.mem_of_getElem? (i := 54) rfl)
theorem yr67_0 {L xs M} (h : Y L xs M) : gr M 67 0 = 68 := h.r 67 0 68 (List.mem_of_getElem? (i := 55) rfl)
theorem yr58_4 {L xs M} (h : Y L xs M) : gr M 58 4 = 67 := h.r 58 4 67 (List.mem_of_getElem? (i := 56) rfl)
theorem yr69_0 {L xs M} (h : Y L xs M) : gr M 69 0 = 70 := h.r 69 0 70 (List.mem_of_getElem? (i := 57) rfl)
theorem yr58_5 {L xs M} (h : Y L xs M) : gr M 58 5 = 69 := h.r 58 5 69 (List.mem_of_getElem? (i := 58) rfl)
theorem yr71_0 {L xs M} (h : Y L xs M) : gr M 71 0 = 72 := h.r 71 0 72 (List.mem_of_getElem? (i := 59) rfl)
theorem yr58_6 {L xs M} (h : Y L xs M) : gr M 58 6 = 71 := h.r 58 6 71 (List.mem_of_getElem? (i := 60) rfl)
theorem yr73_0 {L xs M} (h : Y L xs M) : gr M 73 0 = 74 := h.r 73 0 74 (List.mem_of_getElem? (i := 61) rfl)
theorem yr58_7 {L xs M} (h : Y L xs M) : gr M 58 7 = 73 := h.r 58 7 73 (List.mem_of_getElem? (i := 62) rfl)
theorem yr75_0 {L xs M} (h : Y L xs M) : gr M 75 0 = 76 := h.r 75 0 76 (List.mem_of_getElem? (i := 63) rfl)
theorem yr58_8 {L xs M} (h : Y L xs M) : gr M 58 8 = 75 := h.r 58 8 75 (List.mem_of_getElem? (i := 64) rfl)
theorem yr77_0 {L xs M} (h : Y L xs M) : gr M 77 0 = 78 := h.r 77 0 78 (List.mem_of_getElem? (i := 65) rfl)
theorem yr58_9 {L xs M} (h : Y L xs M) : gr M 58 9 = 77 := h.r 58 9 77 (List.mem_of_getElem? (i := 66) rfl)
theorem yr79_0 {L xs M} (h : Y L xs M) : gr M 79 0 = 80 := h.r 79 0 80 (List.mem_of_getElem? (i := 67) rfl)
theorem yr58_10 {L xs M} (h : Y L xs M) : gr M 58 10 = 79 := h.r 58 10 79 (List.mem_of_getElem? (i := 68) rfl)
theorem yr81_0 {L xs M} (h : Y L xs M) : gr M 81 0 = 82 := h.r 81 0 82 (List.mem_of_getElem? (i := 69) rfl)
theorem yr58_11 {L xs M} (h : Y L xs M) : gr M 58 11 = 81 := h.r 58 11 81 (List.mem_of_getElem? (i := 70) rfl)
theorem yr83_0 {L xs M} (h : Y L xs M) : gr M 83 0 = 84 := h.r 83 0 84 (List.mem_of_getElem? (i := 71) rfl)
theorem yr58_12 {L xs M} (h : Y L xs M) : gr M 58 12 = 83 := h.r 58 12 83 (List.mem_of_getElem? (i := 72) rfl)
theorem yr85_0 {L xs M} (h : Y L xs M) : gr M 85 0 = 86 := h.r 85 0 86 (List.mem_of_getElem? (i := 73) rfl)
theorem yr58_13 {L xs M} (h : Y L xs M) : gr M 58 13 = 85 := h.r 58 13 85 (List.mem_of_getElem? (i := 74) rfl)
theorem yr87_0 {L xs M} (h : Y L xs M) : gr M 87 0 = 88 := h.r 87 0 88 (List.mem_of_getElem? (i := 75) rfl)
theorem yr58_14 {L xs M} (h : Y L xs M) : gr M 58 14 = 87 := h.r 58 14 87 (List.mem_of_getElem? (i := 76) rfl)
theorem yr89_0 {L xs M} (h : Y L xs M) : gr M 89 0 = 90 := h.r 89 0 90 (List.mem_of_getElem? (i := 77) rfl)
theorem yr58_15 {L xs M} (h : Y L xs M) : gr M 58 15 = 89 := h.r 58 15 89 (List.mem_of_getElem? (i := 78) rfl)
theorem yr35_11 {L xs M} (h : Y L xs M) : gr M 35 11 = 91 := h.r 35 11 91 (List.mem_of_getElem? (i := 79) rfl)
theorem yr35_12 {L xs M} (h : Y L xs M) : gr M 35 12 = 92 := h.r 35 12 92 (List.mem_of_getElem? (i := 80) rfl)
theorem yr35_13 {L xs M} (h : Y L xs M) : gr M 35 13 = 93 := h.r 35 13 93 (List.mem_of_getElem? (i := 81) rfl)
theorem yr35_15 {L xs M} (h : Y L xs M) : gr M 35 15 = 94 := h.r 35 15 94 (List.mem_of_getElem? (i := 82) rfl)
theorem yr35_16 {L xs M} (h : Y L xs M) : gr M 35 16 = 95 := h.r 35 16 95 (List.mem_of_getElem? (i := 83) rfl)
theorem yr35_17 {L xs M} (h : Y L xs M) : gr M 35 17 = 96 := h.r 35 17 96 (List.mem_of_getElem? (i := 84) rfl)
theorem yr97_0 {L xs M} (h : Y L xs M) : gr M 97 0 = 98 := h.r 97 0 98 (List.mem_of_getElem? (i := 85) rfl)
theorem yr97_3 {L xs M} (h : Y L xs M) : gr M 97 3 = 99 := h.r 97 3 99 (List.mem_of_getElem? (i := 86) rfl)
theorem yr97_4 {L xs M} (h : Y L xs M) : gr M 97 4 = 100 := h.r 97 4 100 (List.mem_of_getElem? (i := 87) rfl)
theorem yr97_5 {L xs M} (h : Y L xs M) : gr M 97 5 = 101 := h.r 97 5 101 (List.mem_of_getElem? (i := 88) rfl)
theorem yr97_6 {L xs M} (h : Y L xs M) : gr M 97 6 = 102 := h.r 97 6 102 (List.mem_of_getElem? (i := 89) rfl)
theorem yr97_8 {L xs M} (h : Y L xs M) : gr M 97 8 = 103 := h.r 97 8 103 (List.mem_of_getElem? (i := 90) rfl)
theorem yr104_0 {L xs M} (h : Y L xs M) : gr M 104 0 = 105 := h.r 104 0 105 (List.mem_of_getElem? (i := 91) rfl)
theorem yr103_0 {L xs M} (h : Y L xs M) : gr M 103 0 = 104 := h.r 103 0 104 (List.mem_of_getElem? (i := 92) rfl)
theorem yr106_0 {L xs M} (h : Y L xs M) : gr M 106 0 = 107 := h.r 106 0 107 (List.mem_of_getElem? (i := 93) rfl)
theorem yr103_1 {L xs M} (h : Y L xs M) : gr M 103 1 = 106 := h.r 103 1 106 (List.mem_of_getElem? (i := 94) rfl)
theorem yr108_0 {L xs M} (h : Y L xs M) : gr M 108 0 = 109 := h.r 108 0 109 (List.mem_of_getElem? (i := 95) rfl)
theorem yr103_2 {L xs M} (h : Y L xs M) : gr M 103 2 = 108 := h.r 103 2 108 (List.mem_of_getElem? (i := 96) rfl)
theorem yr110_0 {L xs M} (h : Y L xs M) : gr M 110 0 = 111 := h.r 110 0 111 (List.mem_of_getElem? (i := 97) rfl)
theorem yr103_3 {L xs M} (h : Y L xs M) : gr M 103 3 = 110 := h.r 103 3 110 (List.mem_of_getElem? (i := 98) rfl)
theorem yr112_0 {L xs M} (h : Y L xs M) : gr M 112 0 = 113 := h.r 112 0 113 (List.mem_of_getElem? (i := 99) rfl)
theorem yr103_4 {L xs M} (h : Y L xs M) : gr M 103 4 = 112 := h.r 103 4 112 (List.mem_of_getElem? (i := 100) rfl)
theorem yr114_0 {L xs M} (h : Y L xs M) : gr M 114 0 = 115 := h.r 114 0 115 (List.mem_of_getElem? (i := 101) rfl)
theorem yr103_5 {L xs M} (h : Y L xs M) : gr M 103 5 = 114 := h.r 103 5 114 (List.mem_of_getElem? (i := 102) rfl)
theorem yr116_0 {L xs M} (h : Y L xs M) : gr M 116 0 = 117 := h.r 116 0 117 (List.mem_of_getElem? (i := 103) rfl)
theorem yr103_6 {L xs M} (h : Y L xs M) : gr M 103 6 = 116 := h.r 103 6 116 (List.mem_of_getElem? (i := 104) rfl)
theorem yr118_0 {L xs M} (h : Y L xs M) : gr M 118 0 = 119 := h.r 118 0 119 (List.mem_of_getElem? (i := 105) rfl)
theorem yr103_7 {L xs M} (h : Y L xs M) : gr M 103 7 = 118 := h.r 103 7 118 (List.mem_of_getElem? (i := 106) rfl)
theorem yr97_10 {L xs M} (h : Y L xs M) : gr M 97 10 = 120 := h.r 97 10 120 (List.mem_of_getElem? (i := 107) rfl)
theorem yr121_0 {L xs M} (h : Y L xs M) : gr M 121 0 = 122 := h.r 121 0 122 (List.mem_of_getElem? (i := 108) rfl)
theorem yr120_0 {L xs M} (h : Y L xs M) : gr M 120 0 = 121 := h.r 120 0 121 (List.mem_of_getElem? (i := 109) rfl)
theorem yr123_0 {L xs M} (h : Y L xs M) : gr M 123 0 = 124 := h.r 123 0 124 (List.mem_of_getElem? (i := 110) rfl)
theorem yr120_1 {L xs M} (h : Y L xs M) : gr M 120 1 = 123 := h.r 120 1 123 (List.mem_of_getElem? (i := 111) rfl)
theorem yr125_0 {L xs M} (h : Y L xs M) : gr M 125 0 = 126 := h.r 125 0 126 (List.mem_of_getElem? (i := 112) rfl)
theorem yr120_2 {L xs M} (h : Y L xs M) : gr M 120 2 = 125 := h.r 120 2 125 (List.mem_of_getElem? (i := 113) rfl)
theorem yr127_0 {L xs M} (h : Y L xs M) : gr M 127 0 = 128 := h.r 127 0 128 (List.mem_of_getElem? (i := 114) rfl)
theorem yr120_3 {L xs M} (h : Y L xs M) : gr M 120 3 = 127 := h.r 120 3 127 (List.mem_of_getElem? (i := 115) rfl)
theorem yr129_0 {L xs M} (h : Y L xs M) : gr M 129 0 = 130 := h.r 129 0 130 (List.mem_of_getElem? (i := 116) rfl)
theorem yr120_4 {L xs M} (h : Y L xs M) : gr M 120 4 = 129 := h.r 120 4 129 (List.mem_of_getElem? (i := 117) rfl)
theorem yr131_0 {L xs M} (h : Y L xs M) : gr M 131 0 = 132 := h.r 131 0 132 (List.mem_of_getElem? (i := 118) rfl)
theorem yr120_5 {L xs M} (h : Y L xs M) : gr M 120 5 = 131 := h.r 120 5 131 (List.mem_of_getElem? (i := 119) rfl)
theorem yr133_0 {L xs M} (h : Y L xs M) : gr M 133 0 = 134 := h.r 133 0 134 (List.mem_of_getElem? (i := 120) rfl)
theorem yr120_6 {L xs M} (h : Y L xs M) : gr M 120 6 = 133 := h.r 120 6 133 (List.mem_of_getElem? (i := 121) rfl)
theorem yr135_0 {L xs M} (h : Y L xs M) : gr M 135 0 = 136 := h.r 135 0 136 (List.mem_of_getElem? (i := 122) rfl)
theorem yr120_7 {L xs M} (h : Y L xs M) : gr M 120 7 = 135 := h.r 120 7 135 (List.mem_of_getElem? (i := 123) rfl)
theorem yr137_0 {L xs M} (h : Y L xs M) : gr M 137 0 = 138 := h.r 137 0 138 (List.mem_of_getElem? (i := 124) rfl)
theorem yr120_8 {L xs M} (h : Y L xs M) : gr M 120 8 = 137 := h.r 120 8 137 (List.mem_of_getElem? (i := 125) rfl)
theorem yr139_0 {L xs M} (h : Y L xs M) : gr M 139 0 = 140 := h.r 139 0 140 (List.mem_of_getElem? (i := 126) rfl)
theorem yr120_9 {L xs M} (h : Y L xs M) : gr M 120 9 = 139 := h.r 120 9 139 (List.mem_of_getElem? (i := 127) rfl)
theorem yr141_0 {L xs M} (h : Y L xs M) : gr M 141 0 = 142 := h.r 141 0 142 (List.mem_of_getElem? (i := 128) rfl)
theorem yr120_10 {L xs M} (h : Y L xs M) : gr M 120 10 = 141 := h.r 120 10 141 (List.mem_of_getElem? (i := 129) rfl)
theorem yr143_0 {L xs M} (h : Y L xs M) : gr M 143 0 = 144 := h.r 143 0 144 (List.mem_of_getElem? (i := 130) rfl)
theorem yr120_11 {L xs M} (h : Y L xs M) : gr M 120 11 = 143 := h.r 120 11 143 (List.mem_of_getElem? (i := 131) rfl)
theorem yr145_0 {L xs M} (h : Y L xs M) : gr M 145 0 = 146 := h.r 145 0 146 (List.mem_of_getElem? (i := 132) rfl)
theorem yr120_12 {L xs M} (h : Y L xs M) : gr M 120 12 = 145 := h.r 120 12 145 (List.mem_of_getElem? (i := 133) rfl)
theorem yr147_0 {L xs M} (h : Y L xs M) : gr M 147 0 = 148 := h.r 147 0 148 (List.mem_of_getElem? (i := 134) rfl)
theorem yr120_13 {L xs M} (h : Y L xs M) : gr M 120 13 = 147 := h.r 120 13 147 (List.mem_of_getElem? (i := 135) rfl)
theorem yr149_0 {L xs M} (h : Y L xs M) : gr M 149 0 = 150 := h.r 149 0 150 (List.mem_of_getElem? (i := 136) rfl)
theorem yr120_14 {L xs M} (h : Y L xs M) : gr M 120 14 = 149 := h.r 120 14 149 (List.mem_of_getElem? (i := 137) rfl)
theorem yr151_0 {L xs M} (h : Y L xs M) : gr M 151 0 = 152 := h.r 151 0 152 (List.mem_of_getElem? (i := 138) rfl)
theorem yr120_15 {L xs M} (h : Y L xs M) : gr M 120 15 = 151 := h.r 120 15 151 (List.mem_of_getElem? (i := 139) rfl)
theorem yr97_11 {L xs M} (h : Y L xs M) : gr M 97 11 = 153 := h.r 97 11 153 (List.mem_of_getElem? (i := 140) rfl)
theorem yr97_12 {L xs M} (h : Y L xs M) : gr M 97 12 = 154 := h.r 97 12 154 (List.mem_of_getElem? (i := 141) rfl)
theorem yr97_13 {L xs M} (h : Y L xs M) : gr M 97 13 = 155 := h.r 97 13 155 (List.mem_of_getElem? (i := 142) rfl)
theorem yr97_15 {L xs M} (h : Y L xs M) : gr M 97 15 = 156 := h.r 97 15 156 (List.mem_of_getElem? (i := 143) rfl)
theorem yr97_16 {L xs M} (h : Y L xs M) : gr M 97 16 = 157 := h.r 97 16 157 (List.mem_of_getElem? (i := 144) rfl)
theorem yr97_17 {L xs M} (h : Y L xs M) : gr M 97 17 = 158 := h.r 97 17 158 (List.mem_of_getElem? (i := 145) rfl)
theorem yr159_2 {L xs M} (h : Y L xs M) : gr M 159 2 = 160 := h.r 159 2 160 (List.mem_of_getElem? (i := 146) rfl)
theorem yr159_3 {L xs M} (h : Y L xs M) : gr M 159 3 = 161 := h.r 159 3 161 (List.mem_of_getElem? (i := 147) rfl)
theorem yr159_5 {L xs M} (h : Y L xs M) : gr M 159 5 = 162 := h.r 159 5 162 (List.mem_of_getElem? (i := 148) rfl)
theorem yr159_12 {L xs M} (h : Y L xs M) : gr M 159 12 = 163 := h.r 159 12 163 (List.mem_of_getElem? (i := 149) rfl)
theorem yr159_13 {L xs M} (h : Y L xs M) : gr M 159 13 = 164 := h.r 159 13 164 (List.mem_of_getElem? (i := 150) rfl)
theorem yr159_14 {L xs M} (h : Y L xs M) : gr M 159 14 = 165 := h.r 159 14 165 (List.mem_of_getElem? (i := 151) rfl)
theorem yr159_16 {L xs M} (h : Y L xs M) : gr M 159 16 = 166 := h.r 159 16 166 (List.mem_of_getElem? (i := 152) rfl)
theorem yr159_17 {L xs M} (h : Y L xs M) : gr M 159 17 = 167 := h.r 159 17 167 (List.mem_of_getElem? (i := 153) rfl)
theorem yr159_18 {L xs M} (h : Y L xs M) : gr M 159 18 = 168 := h.r 159 18 168 (List.mem_of_getElem? (i := 154) rfl)
theorem yr159_20 {L xs M} (h : Y L xs M) : gr M 159 20 = 169 := h.r 159 20 169 (List.mem_of_getElem? (i := 155) rfl)
theorem yr159_21 {L xs M} (h : Y L xs M) : gr M 159 21 = 170 := h.r 159 21 170 (List.mem_of_getElem? (i := 156) rfl)
theorem yr159_22 {L xs M} (h : Y L xs M) : gr M 159 22 = 171 := h.r 159 22 171 (List.mem_of_getElem? (i := 157) rfl)
theorem yr159_23 {L xs M} (h : Y L xs M) : gr M 159 23 = 172 := h.r 159 23 172 (List.mem_of_getElem? (i := 158) rfl)
theorem yr159_24 {L xs M} (h : Y L xs M) : gr M 159 24 = 173 := h.r 159 24 173 (List.mem_of_getElem? (i := 159) rfl)
theorem yr159_25 {L xs M} (h : Y L xs M) : gr M 159 25 = 174 := h.r 159 25 174 (List.mem_of_getElem? (i := 160) rfl)
theorem yr159_26 {L xs M} (h : Y L xs M) : gr M 159 26 = 175 := h.r 159 26 175 (List.mem_of_getElem? (i := 161) rfl)
theorem yr159_27 {L xs M} (h : Y L xs M) : gr M 159 27 = 176 := h.r 159 27 176 (List.mem_of_getElem? (i := 162) rfl)
theorem yr159_28 {L xs M} (h : Y L xs M) : gr M 159 28 = 177 := h.r 159 28 177 (List.mem_of_getElem? (i := 163) rfl)
theorem yr159_29 {L xs M} (h : Y L xs M) : gr M 159 29 = 178 := h.r 159 29 178 (List.mem_of_getElem? (i := 164) rfl)
theorem yr159_30 {L xs M} (h : Y L xs M) : gr M 159 30 = 179 := h.r 159 30 179 (List.mem_of_getElem? (i := 165) rfl)
theorem yr159_31 {L xs M} (h : Y L xs M) : gr M 159 31 = 180 := h.r 159 31 180 (List.mem_of_getElem? (i := 166) rfl)
theorem yr159_40 {L xs M} (h : Y L xs M) : gr M 159 40 = 181 := h.r 159 40 181 (List.mem_of_getElem? (i := 167) rfl)
theorem yr159_48 {L xs M} (h : Y L xs M) : gr M 159 48 = 182 := h.r 159 48 182 (List.mem_of_getElem? (i := 168) rfl)
theorem yr159_49 {L xs M} (h : Y L xs M) : gr M 159 49 = 183 := h.r 159 49 183 (List.mem_of_getElem? (i := 169) rfl)
theorem yr159_50 {L xs M} (h : Y L xs M) : gr M 159 50 = 184 := h.r 159 50 184 (List.mem_of_getElem? (i := 170) rfl)
theorem yr159_51 {L xs M} (h : Y L xs M) : gr M 159 51 = 185 := h.r 159 51 185 (List.mem_of_getElem? (i := 171) rfl)
theorem yr159_53 {L xs M} (h : Y L xs M) : gr M 159 53 = 186 := h.r 159 53 186 (List.mem_of_getElem? (i := 172) rfl)
theorem yr159_55 {L xs M} (h : Y L xs M) : gr M 159 55 = 187 := h.r 159 55 187 (List.mem_of_getElem? (i := 173) rfl)
theorem yr159_56 {L xs M} (h : Y L xs M) : gr M 159 56 = 188 := h.r 159 56 188 (List.mem_of_getElem? (i := 174) rfl)
theorem yr159_59 {L xs M} (h : Y L xs M) : gr M 159 59 = 189 := h.r 159 59 189 (List.mem_of_getElem? (i := 175) rfl)
theorem yr159_61 {L xs M} (h : Y L xs M) : gr M 159 61 = 190 := h.r 159 61 190 (List.mem_of_getElem? (i := 176) rfl)
theorem yr159_62 {L xs M} (h : Y L xs M) : gr M 159 62 = 191 := h.r 159 62 191 (List.mem_of_getElem? (i := 177) rfl)
theorem yr159_63 {L xs M} (h : Y L xs M) : gr M 159 63 = 192 := h.r 159 63 192 (List.mem_of_getElem? (i := 178) rfl)
theorem yr159_64 {L xs M} (h : Y L xs M) : gr M 159 64 = 193 := h.r 159 64 193 (List.mem_of_getElem? (i := 179) rfl)
theorem yr159_65 {L xs M} (h : Y L xs M) : gr M 159 65 = 194 := h.r 159 65 194 (List.mem_of_getElem? (i := 180) rfl)
theorem yr159_66 {L xs M} (h : Y L xs M) : gr M 159 66 = 195 := h.r 159 66 195 (List.mem_of_getElem? (i := 181) rfl)
theorem yr159_67 {L xs M} (h : Y L xs M) : gr M 159 67 = 196 := h.r 159 67 196 (List.mem_of_getElem? (i := 182) rfl)
theorem yr159_68 {L xs M} (h : Y L xs M) : gr M 159 68 = 197 := h.r 159 68 197 (List.mem_of_getElem? (i := 183) rfl)
theorem yr159_69 {L xs M} (h : Y L xs M) : gr M 159 69 = 198 := h.r 159 69 198 (List.mem_of_getElem? (i := 184) rfl)
theorem yr159_74 {L xs M} (h : Y L xs M) : gr M 159 74 = 199 := h.r 159 74 199 (List.mem_of_getElem? (i := 185) rfl)
theorem yr159_75 {L xs M} (h : Y L xs M) : gr M 159 75 = 200 := h.r 159 75 200 (List.mem_of_getElem? (i := 186) rfl)
theorem yr159_76 {L xs M} (h : Y L xs M) : gr M 159 76 = 201 := h.r 159 76 201 (List.mem_of_getElem? (i := 187) rfl)
theorem yr159_77 {L xs M} (h : Y L xs M) : gr M 159 77 = 202 := h.r 159 77 202 (List.mem_of_getElem? (i := 188) rfl)
theorem yr159_78 {L xs M} (h : Y L xs M) : gr M 159 78 = 203 := h.r 159 78 203 (List.mem_of_getElem? (i := 189) rfl)
theorem yr159_80 {L xs M} (h : Y L xs M) : gr M 159 80 = 204 := h.r 159 80 204 (List.mem_of_getElem? (i := 190) rfl)
theorem yr159_83 {L xs M} (h : Y L xs M) : gr M 159 83 = 205 := h.r 159 83 205 (List.mem_of_getElem? (i := 191) rfl)
theorem yr159_84 {L xs M} (h : Y L xs M) : gr M 159 84 = 206 := h.r 159 84 206 (List.mem_of_getElem? (i := 192) rfl)
theorem yr159_85 {L xs M} (h : Y L xs M) : gr M 159 85 = 207 := h.r 159 85 207 (List.mem_of_getElem? (i := 193) rfl)
theorem yr159_89 {L xs M} (h : Y L xs M) : gr M 159 89 = 208 := h.r 159 89 208 (List.mem_of_getElem? (i := 194) rfl)
theorem yi1 {L xs M} (h : Y L xs M) (i : Int32) : e_ai M 1 i ↔ vp_in i L := by
  have h1 := h.1.1
  have h2 : M.2.1 1 = (20, L) := h.1.2.2.1
  unfold e_ai
  rw [h2]
  exact ⟨fun z => z.2.2.2, fun z => ⟨by omega, by omega, rfl, z⟩⟩
theorem yi2 {L xs M} (h : Y L xs M) (i : Int32) : e_ai M 2 i ↔ vp_in i 53 := by
  have h1 := h.1.1
  have h2 : M.2.1 2 = (20, 53) := h.1.2.2.2.1
  unfold e_ai
  rw [h2]
  exact ⟨fun z => z.2.2.2, fun z => ⟨by omega, by omega, rfl, z⟩⟩
theorem yi3 {L xs M} (h : Y L xs M) (i : Int32) : e_ai M 3 i ↔ vp_in i 54 := by
  have h1 := h.1.1
  have h2 : M.2.1 3 = (20, 54) := h.1.2.2.2.2.1
  unfold e_ai
  rw [h2]
  exact ⟨fun z => z.2.2.2, fun z => ⟨by omega, by omega, rfl, z⟩⟩
theorem yi4 {L xs M} (h : Y L xs M) (i : Int32) : e_ai M 4 i ↔ vp_in i 54 := by
  have h1 := h.1.1
  have h2 : M.2.1 4 = (20, 54) := h.1.2.2.2.2.2
  unfold e_ai
  rw [h2]
  exact ⟨fun z => z.2.2.2, fun z => ⟨by omega, by omega, rfl, z⟩⟩
