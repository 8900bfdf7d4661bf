/-! ===== where the cells lie behind the constructors (written by a program) ===== -/
def y_lay : List (Nat × Nat) := [(11, 0), (5, 0), (7, 0), (20, 1500), (7, 0), (20, 8), (7, 0), (20, 8), (7, 0), (20, 8), (7, 0), (20, 64), (24, 8), (8, 0), (7, 0), (20, 4), (8, 0), (7, 0), (20, 4), (8, 0), (7, 0), (20, 4), (8, 0), (7, 0), (20, 4), (8, 0), (7, 0), (20, 4), (8, 0), (7, 0), (20, 4), (8, 0), (7, 0), (20, 4), (8, 0), (7, 0), (20, 4), (24, 16), (8, 0), (7, 0), (20, 4), (8, 0), (7, 0), (20, 4), (8, 0), (7, 0), (20, 4), (8, 0), (7, 0), (20, 4), (8, 0), (7, 0), (20, 4), (8, 0), (7, 0), (20, 4), (8, 0), (7, 0), (20, 4), (8, 0), (7, 0), (20, 4), (8, 0), (7, 0), (20, 4), (8, 0), (7, 0), (20, 4), (8, 0), (7, 0), (20, 4), (8, 0), (7, 0), (20, 4), (8, 0), (7, 0), (20, 4), (8, 0), (7, 0), (20, 4), (8, 0), (7, 0), (20, 4), (8, 0), (7, 0), (20, 4), (7, 0), (20, 64), (7, 0), (20, 1500), (7, 0), (20, 1500), (7, 0), (20, 1500), (21, 1500), (21, 1500), (5, 0), (7, 0), (20, 1500), (7, 0), (20, 8), (7, 0), (20, 8), (7, 0), (20, 8), (7, 0), (20, 64), (24, 8), (8, 0), (7, 0), (20, 4), (8, 0), (7, 0), (20, 4), (8, 0), (7, 0), (20, 4), (8, 0), (7, 0), (20, 4), (8, 0), (7, 0), (20, 4), (8, 0), (7, 0), (20, 4), (8, 0), (7, 0), (20, 4), (8, 0), (7, 0), (20, 4), (24, 16), (8, 0), (7, 0), (20, 4), (8, 0), (7, 0), (20, 4), (8, 0), (7, 0), (20, 4), (8, 0), (7, 0), (20, 4), (8, 0), (7, 0), (20, 4), (8, 0), (7, 0), (20, 4), (8, 0), (7, 0), (20, 4), (8, 0), (7, 0), (20, 4), (8, 0), (7, 0), (20, 4), (8, 0), (7, 0), (20, 4), (8, 0), (7, 0), (20, 4), (8, 0), (7, 0), (20, 4), (8, 0), (7, 0), (20, 4), (8, 0), (7, 0), (20, 4), (8, 0), (7, 0), (20, 4), (8, 0), (7, 0), (20, 4), (7, 0), (20, 64), (7, 0), (20, 1500), (7, 0), (20, 1500), (7, 0), (20, 1500), (21, 1500), (21, 1500), (6, 0), (0, 0), (10, 0), (7, 0), (20, 1500), (3, 0), (1, 0), (7, 0), (20, 64), (7, 0), (20, 64), (7, 0), (20, 64), (7, 0), (20, 64), (7, 0), (20, 64), (7, 0), (20, 64), (7, 0), (20, 1024), (2, 0), (7, 0), (20, 4001), (7, 0), (20, 4001), (9, 0), (7, 0), (20, 16), (7, 0), (20, 6000), (23, 30), (7, 0), (20, 16), (7, 0), (20, 1800), (7, 0), (20, 1500), (7, 0), (20, 500), (7, 0), (20, 100), (12, 0), (20, 1500), (20, 1500), (20, 1500), (20, 8), (20, 8), (20, 64), (20, 8), (20, 24), (20, 8), (20, 16), (20, 64), (20, 16), (20, 16), (20, 16), (20, 16), (20, 1920), (22, 1920), (20, 64), (20, 1920), (20, 30720), (20, 16), (20, 100), (20, 500), (20, 16), (20, 16), (20, 15360), (20, 1500), (20, 101), (20, 101), (20, 180600), (20, 64), (20, 64), (20, 64), (20, 64), (20, 64), (20, 64), (20, 64), (20, 512), (20, 512), (20, 2100), (20, 2100), (20, 2100), (20, 2100), (22, 2100), (20, 4100), (20, 6), (20, 6), (20, 6), (20, 2100), (21, 1)]
def y_refs : List (Nat × Nat × Nat) := [(10, 0, 11), (9, 0, 10), (12, 0, 13), (9, 3, 12), (14, 0, 15), (9, 4, 14), (16, 0, 17), (9, 5, 16), (18, 0, 19), (9, 6, 18), (9, 8, 20), (22, 0, 23), (21, 0, 22), (20, 0, 21), (25, 0, 26), (24, 0, 25), (20, 1, 24), (28, 0, 29), (27, 0, 28), (20, 2, 27), (31, 0, 32), (30, 0, 31), (20, 3, 30), (34, 0, 35), (33, 0, 34), (20, 4, 33), (37, 0, 38), (36, 0, 37), (20, 5, 36), (40, 0, 41), (39, 0, 40), (20, 6, 39), (43, 0, 44), (42, 0, 43), (20, 7, 42), (9, 10, 45), (47, 0, 48), (46, 0, 47), (45, 0, 46), (50, 0, 51), (49, 0, 50), (45, 1, 49), (53, 0, 54), (52, 0, 53), (45, 2, 52), (56, 0, 57), (55, 0, 56), (45, 3, 55), (59, 0, 60), (58, 0, 59), (45, 4, 58), (62, 0, 63), (61, 0, 62), (45, 5, 61), (65, 0, 66), (64, 0, 65), (45, 6, 64), (68, 0, 69), (67, 0, 68), (45, 7, 67), (71, 0, 72), (70, 0, 71), (45, 8, 70), (74, 0, 75), (73, 0, 74), (45, 9, 73), (77, 0, 78), (76, 0, 77), (45, 10, 76), (80, 0, 81), (79, 0, 80), (45, 11, 79), (83, 0, 84), (82, 0, 83), (45, 12, 82), (86, 0, 87), (85, 0, 86), (45, 13, 85), (89, 0, 90), (88, 0, 89), (45, 14, 88), (92, 0, 93), (91, 0, 92), (45, 15, 91), (94, 0, 95), (9, 11, 94), (96, 0, 97), (9, 12, 96), (98, 0, 99), (9, 13, 98), (100, 0, 101), (9, 15, 100), (9, 16, 102), (9, 17, 103), (8, 5, 9), (105, 0, 106), (104, 0, 105), (107, 0, 108), (104, 3, 107), (109, 0, 110), (104, 4, 109), (111, 0, 112), (104, 5, 111), (113, 0, 114), (104, 6, 113), (104, 8, 115), (117, 0, 118), (116, 0, 117), (115, 0, 116), (120, 0, 121), (119, 0, 120), (115, 1, 119), (123, 0, 124), (122, 0, 123), (115, 2, 122), (126, 0, 127), (125, 0, 126), (115, 3, 125), (129, 0, 130), (128, 0, 129), (115, 4, 128), (132, 0, 133), (131, 0, 132), (115, 5, 131), (135, 0, 136), (134, 0, 135), (115, 6, 134), (138, 0, 139), (137, 0, 138), (115, 7, 137), (104, 10, 140), (142, 0, 143), (141, 0, 142), (140, 0, 141), (145, 0, 146), (144, 0, 145), (140, 1, 144), (148, 0, 149), (147, 0, 148), (140, 2, 147), (151, 0, 152), (150, 0, 151), (140, 3, 150), (154, 0, 155), (153, 0, 154), (140, 4, 153), (157, 0, 158), (156, 0, 157), (140, 5, 156), (160, 0, 161), (159, 0, 160), (140, 6, 159), (163, 0, 164), (162, 0, 163), (140, 7, 162), (166, 0, 167), (165, 0, 166), (140, 8, 165), (169, 0, 170), (168, 0, 169), (140, 9, 168), (172, 0, 173), (171, 0, 172), (140, 10, 171), (175, 0, 176), (174, 0, 175), (140, 11, 174), (178, 0, 179), (177, 0, 178), (140, 12, 177), (181, 0, 182), (180, 0, 181), (140, 13, 180), (184, 0, 185), (183, 0, 184), (140, 14, 183), (187, 0, 188), (186, 0, 187), (140, 15, 186), (189, 0, 190), (104, 11, 189), (191, 0, 192), (104, 12, 191), (193, 0, 194), (104, 13, 193), (195, 0, 196), (104, 15, 195), (104, 16, 197), (104, 17, 198), (8, 6, 104), (199, 0, 104), (8, 0, 199), (200, 2, 104), (8, 1, 200), (202, 0, 203), (201, 2, 202), (201, 3, 104), (201, 4, 141), (8, 2, 201), (204, 15, 9), (206, 0, 207), (205, 1, 206), (208, 0, 209), (205, 2, 208), (210, 0, 211), (205, 3, 210), (212, 0, 213), (205, 4, 212), (214, 0, 215), (205, 5, 214), (216, 0, 217), (205, 6, 216), (218, 0, 219), (205, 7, 218), (204, 0, 205), (221, 0, 222), (220, 3, 221), (223, 0, 224), (220, 4, 223), (204, 1, 220), (225, 12, 9), (226, 0, 227), (225, 4, 226), (228, 0, 229), (225, 5, 228), (225, 6, 230), (231, 0, 232), (225, 8, 231), (233, 0, 234), (225, 9, 233), (204, 2, 225), (235, 0, 236), (204, 3, 235), (237, 0, 238), (204, 5, 237), (239, 0, 240), (204, 13, 239), (8, 3, 204), (241, 2, 242), (241, 3, 243), (241, 5, 244), (241, 12, 245), (241, 13, 246), (241, 14, 247), (241, 16, 248), (241, 17, 249), (241, 18, 250), (241, 20, 251), (241, 21, 252), (241, 22, 253), (241, 23, 254), (241, 24, 255), (241, 25, 256), (241, 26, 257), (241, 27, 258), (241, 28, 259), (241, 29, 260), (241, 30, 261), (241, 31, 262), (241, 40, 263), (241, 48, 264), (241, 49, 265), (241, 50, 266), (241, 51, 267), (241, 53, 268), (241, 55, 269), (241, 56, 270), (241, 59, 271), (241, 61, 272), (241, 62, 273), (241, 63, 274), (241, 64, 275), (241, 65, 276), (241, 66, 277), (241, 67, 278), (241, 68, 279), (241, 69, 280), (241, 74, 281), (241, 75, 282), (241, 76, 283), (241, 77, 284), (241, 78, 285), (241, 80, 286), (241, 83, 287), (241, 84, 288), (241, 85, 289), (241, 89, 290)]
/-- where ints stay 0 -/
def y_int (a j : Nat) : Bool := !((a == 225 && (j == 0 || j == 1 || j == 2 || j == 3)) || a == 227 || a == 232 || (a == 8 && (j == 10)) || (a == 241 && (j == 34 || j == 35 || j == 36 || j == 37 || j == 38)))
theorem y_uq0 : y_refs.all (fun q => y_refs.all (fun p => !(q.1 == p.1 && q.2.1 == p.2.1) || q.2.2 == p.2.2)) = true := by decide +kernel
theorem y_uq {i k : Nat} {q p : Nat × Nat × Nat} (hq : y_refs[i]? = some q) (hp : y_refs[k]? = some p) (h1 : q.1 = p.1) (h2 : q.2.1 = p.2.1) : q.2.2 = p.2.2 := by
  have h := List.all_eq_true.mp (List.all_eq_true.mp y_uq0 q (List.mem_of_getElem? hq)) p (List.mem_of_getElem? hp)
  simp only [h1, h2, beq_self_eq_true, Bool.and_self, Bool.not_true, Bool.false_or, beq_iff_eq] at h
  exact h
/-- behind so many cells and references: kinds and lengths, references, ints that are 0, the script -/
def y_I (L : Nat) (xs : Nat → Int32) (b r : Nat) (M : eM) : Prop := M.1 = b ∧ (∀ k, 8 ≤ k → k < b → M.2.1 k = y_lay.getD (k - 8) (0, 0)) ∧ (∀ k q, k < r → y_refs[k]? = some q → q.1 < b ∧ gr M q.1 q.2.1 = q.2.2) ∧ (∀ a j, 8 ≤ a → y_int a j = true → gi M a j = 0) ∧ M.2.1 1 = (20, L) ∧ (∀ j, gi M 1 j = xs j) ∧ 8 ≤ b
section INIT
variable {L : Nat} {xs : Nat → Int32} {b r b' r' : Nat} {M : eM} {P : eM → Prop}
theorem y_I.ob (h : y_I L xs b r M) (o ci : Nat) (h8 : 8 ≤ o) (hb : o < b) (hc : (y_lay.getD (o - 8) (0, 0)).1 = ci) : e_ob M o ci := ⟨h8, by rw [h.1]; exact hb, by rw [h.2.1 o h8 hb]; exact hc⟩
theorem y_I.ar (h : y_I L xs b r M) (a t n : Nat) (i : Int32) (h8 : 8 ≤ a) (hb : a < b) (hc : y_lay.getD (a - 8) (0, 0) = (t, n)) (hi : vp_in i n) : e_ar M a t i := ⟨h8, by rw [h.1]; exact hb, by rw [h.2.1 a h8 hb, hc], by rw [h.2.1 a h8 hb, hc]; exact hi⟩
theorem y_I.gr (h : y_I L xs b r M) (k a j v : Nat) (hk : k < r) (hq : y_refs[k]? = some (a, j, v)) : gr M a j = v := (h.2.2.1 k _ hk hq).2
theorem y_I.gi (h : y_I L xs b r M) (a j : Nat) (h8 : 8 ≤ a) (hi : y_int a j = true) : gi M a j = 0 := h.2.2.2.1 a j h8 hi
theorem y_I.new (h : y_I L xs b r M) {t n : Nat} (hy : y_lay.getD (b - 8) (0, 0) = (t, n)) : y_I L xs (b + 1) r (e_new M t n) := by
  obtain ⟨h1, h2, h3, h4, h5, h6, h7⟩ := h
  refine ⟨?_, ?_, ?_, ?_, ?_, ?_, by omega⟩
  · show M.1 + 1 = b + 1
    rw [h1]
  · intro k h8 hk
    show va_up M.2.1 M.1 (t, n) k = _
    by_cases hkb : k = b
    · subst hkb
      rw [h1, va_up_self, hy]
    · rw [va_up_ne _ _ (by rw [h1]; exact hkb)]
      exact h2 k h8 (by omega)
  · intro k q hk hq
    obtain ⟨g1, g2⟩ := h3 k q hk hq
    refine ⟨by omega, ?_⟩
    show va_up M.2.2.2.2 M.1 (fun _ => 0) q.1 q.2.1 = _
    rw [va_up_ne _ _ (by rw [h1]; omega)]
    exact g2
  · intro a j h8 hi
    show va_up M.2.2.1 M.1 (fun _ => 0) a j = 0
    by_cases ha : a = M.1
    · rw [ha, va_up_self]
    · rw [va_up_ne _ _ ha]
      exact h4 a j h8 hi
  · show va_up M.2.1 M.1 (t, n) 1 = _
    rw [va_up_ne _ _ (by rw [h1]; omega)]
    exact h5
  · intro j
    show va_up M.2.2.1 M.1 (fun _ => 0) 1 j = _
    rw [va_up_ne _ _ (by rw [h1]; omega)]
    exact h6 j
theorem y_I.sr (h : y_I L xs b r M) {o j v : Nat} (hq : y_refs[r]? = some (o, j, v)) (ho : o < b) : y_I L xs b (r + 1) (e_sr M o j v) := by
  obtain ⟨h1, h2, h3, h4, h5, h6, h7⟩ := h
  refine ⟨h1, h2, ?_, h4, h5, h6, h7⟩
  intro k q hk hq'
  show q.1 < b ∧ (if q.1 = o ∧ q.2.1 = j then v else M.2.2.2.2 q.1 q.2.1) = q.2.2
  by_cases hkr : k = r
  · subst hkr
    rw [hq] at hq'
    cases hq'
    exact ⟨ho, by rw [if_pos ⟨rfl, rfl⟩]⟩
  · obtain ⟨g1, g2⟩ := h3 k q (by omega) hq'
    refine ⟨g1, ?_⟩
    by_cases c : q.1 = o ∧ q.2.1 = j
    · rw [if_pos c]
      exact y_uq hq hq' c.1.symm c.2.symm
    · rw [if_neg c]
      exact g2
theorem y_I.si (h : y_I L xs b r M) {o j : Nat} {x : Int32} (hi : y_int o j = false) (h8 : 8 ≤ o) : y_I L xs b r (e_si M o j x) := by
  obtain ⟨h1, h2, h3, h4, h5, h6, h7⟩ := h
  refine ⟨h1, h2, h3, ?_, h5, ?_, h7⟩
  · intro a k ha hk
    show (if a = o ∧ k = j then x else M.2.2.1 a k) = 0
    by_cases c : a = o ∧ k = j
    · rw [c.1, c.2, hi] at hk
      cases hk
    · rw [if_neg c]
      exact h4 a k ha hk
  · intro k
    show (if 1 = o ∧ k = j then x else M.2.2.1 1 k) = _
    rw [if_neg (by omega)]
    exact h6 k
theorem y_new (h : y_I L xs b r M) {t n : Nat} (hy : y_lay.getD (b - 8) (0, 0) = (t, n)) (hb : b' = b + 1) (k : ∀ M', y_I L xs b' r M' → P M') : ∀ M', M' = e_new M t n → P M' := by
  intro M' e
  subst e
  subst hb
  exact k _ (h.new hy)
theorem y_sr (h : y_I L xs b r M) {o j v : Nat} (hq : y_refs[r]? = some (o, j, v)) (ho : o < b) (hr : r' = r + 1) (k : ∀ M', y_I L xs b r' M' → P M') : ∀ M', M' = e_sr M o j v → P M' := by
  intro M' e
  subst e
  subst hr
  exact k _ (h.sr hq ho)
theorem y_si (h : y_I L xs b r M) {o j : Nat} {x : Int32} (hi : y_int o j = false) (h8 : 8 ≤ o) (k : ∀ M', y_I L xs b r M' → P M') : ∀ M', M' = e_si M o j x → P M' := by
  intro M' e
  subst e
  exact k _ (h.si hi h8)
theorem N_max {n : Nat} (hn : n < 2147483648) : (if 0 < N n then N n else 0) = N n := by
  by_cases c : 0 < N n
  · rw [if_pos c]
  · rw [if_neg c]
    rw [show (0 : Int32) = N 0 from rfl, N_lt (by omega) hn] at c
    have : n = 0 := by omega
    subst this
    rfl
theorem N_nn {n : Nat} (hn : n < 2147483648) : ¬ N n < 0 := by
  rw [show (0 : Int32) = N 0 from rfl, N_lt hn (by omega)]
  omega
theorem y_row {kc ks o n : Nat} {Q : eM → Prop} (h : y_I L xs b r M) (h8 : 8 ≤ o) (hob : o < b) (hty : (y_lay.getD (o - 8) (0, 0)).1 = 7) (hn : n ≤ 400000) (hk : 1 ≤ kc) (hs : n ≤ ks) (hy : y_lay.getD (b - 8) (0, 0) = (20, n)) (hq : y_refs[r]? = some (o, 0, b)) (hb : b' = b + 1) (hr : r' = r + 1) (k : ∀ M', y_I L xs b' r' M' → Q M') : w_Row_init kc ks o (N n) M Q := by
  unfold w_Row_init
  rw [N_max (by omega), N_nat (by omega)]
  refine ⟨h8, N_nn (by omega), hn, hk, hs, ?_⟩
  rw [h.1]
  refine y_new h hy hb fun M1 h1 => ?_
  have hob' : o < b' := by omega
  exact ⟨h1.ob o 7 h8 hob' hty, y_sr h1 hq hob' hr k⟩
theorem y_methodAt {p arr v : Nat} {Q : Nat → eM → Prop} (h : y_I L xs b r M) (h8 : 8 ≤ p) (hp : p < b) (ht : (y_lay.getD (p - 8) (0, 0)).1 = 5) (h10 : gr M p 10 = arr) (a8 : 8 ≤ arr) (ab : arr < b) (hat : y_lay.getD (arr - 8) (0, 0) = (24, 16)) (h0 : gr M arr 0 = v) (hQ : Q v M) : w_Program_methodAt p 0 M Q := by
  unfold w_Program_methodAt
  refine ⟨h.ob p 5 h8 hp ht, fun c => absurd c (by decide), fun _ => ⟨fun c => absurd c (by decide), fun _ => ?_⟩⟩
  unfold w_Program_methodAt_19
  rw [h10]
  refine ⟨Or.inr (h.ar arr 24 16 0 a8 ab hat (by unfold vp_in; decide +kernel)), ?_⟩
  rw [show (0 : Int32).toNatClampNeg = 0 from rfl, h0]
  exact hQ
/-- a row's place is written -/
theorem y_set {c a n i : Nat} {x : Int32} {Q : eM → Prop} (hc : e_ob M c 7) (hg : gr M c 0 = a) (ha : 8 ≤ a) (hb : a < M.1) (hat : M.2.1 a = (20, n)) (hi : i < n) (hn : n < 2147483648) (hQ : Q (e_si M a i x)) : w_Row_set c (N i) x M Q := by
  unfold w_Row_set
  have ht : gt M a = 20 := by show (M.2.1 a).1 = 20; rw [hat]
  have hlen : Int32.ofNat (gn M a) = N n := by show Int32.ofNat (M.2.1 a).2 = N n; rw [hat]; rfl
  rw [hg, ht, hlen]
  refine ⟨fun z => absurd z (N_nn (by omega)), fun _ => ⟨hc, Or.inl ⟨by omega, hb, rfl⟩, fun z => ?_, fun _ => ⟨hc, ?_, ?_⟩⟩⟩
  · rw [N_le (by omega) (by omega)] at z
    omega
  · refine ⟨ha, hb, by rw [hat], ?_⟩
    rw [hat]
    exact (N_in (by omega)).mpr hi
  · intro M1 e
    subst e
    rw [N_nat (by omega)]
    exact hQ
theorem y_fill {c a : Nat} {x : Int32} {Q : eM → Prop} (c8 : 8 ≤ c) (cb : c < b) (ct : (y_lay.getD (c - 8) (0, 0)).1 = 7) (kg : Nat) (hkr : kg < r) (hkq : y_refs[kg]? = some (c, 0, a)) (a8 : 8 ≤ a) (ab : a < b) (hat : y_lay.getD (a - 8) (0, 0) = (20, 16)) (hi : ∀ j, y_int a j = false) (hQ : ∀ M', y_I L xs b r M' → Q M') :
    ∀ (n i : Nat) (M : eM), n + i = 16 → y_I L xs b r M → w_Row_fill_3 (n + 1) c 16 x (N i) M Q := by
  intro n
  induction n with
  | zero =>
    intro i M hn h
    have : i = 16 := by omega
    subst this
    exact ⟨fun _ => hQ M h, fun z => absurd (by decide) z⟩
  | succ n ih =>
    intro i M hn h
    refine ⟨fun z => ?_, fun _ => ⟨h.ob c 7 c8 cb ct, ?_⟩⟩
    · rw [show (16 : Int32) = N 16 from rfl, N_le (by omega) (by omega)] at z
      omega
    · refine y_set (n := 16) (h.ob c 7 c8 cb ct) (h.gr kg c 0 a hkr hkq) a8 (by rw [h.1]; exact ab) (by rw [h.2.1 a a8 ab, hat]) (by omega) (by omega) ?_
      show w_Row_fill_3 (n + 1) c 16 x (N i + 1) _ Q
      rw [show N i + 1 = N (i + 1) from N_add i 1]
      exact ih (i + 1) _ (by omega) (h.si (hi i) a8)
theorem y_clear {o c1 c2 a1 a2 : Nat} (k1 k2 k3 k4 : Nat) {Q : eM → Prop} (h : y_I L xs b r M) (o8 : 8 ≤ o) (o_b : o < b) (ot : (y_lay.getD (o - 8) (0, 0)).1 = 9)
    (hk1 : k1 < r) (hq1 : y_refs[k1]? = some (o, 4, c1)) (hk2 : k2 < r) (hq2 : y_refs[k2]? = some (o, 8, c2)) (hk3 : k3 < r) (hq3 : y_refs[k3]? = some (c1, 0, a1)) (hk4 : k4 < r) (hq4 : y_refs[k4]? = some (c2, 0, a2))
    (c18 : 8 ≤ c1) (c1b : c1 < b) (c1t : (y_lay.getD (c1 - 8) (0, 0)).1 = 7) (c28 : 8 ≤ c2) (c2b : c2 < b) (c2t : (y_lay.getD (c2 - 8) (0, 0)).1 = 7)
    (a18 : 8 ≤ a1) (a1b : a1 < b) (a1t : y_lay.getD (a1 - 8) (0, 0) = (20, 16)) (a28 : 8 ≤ a2) (a2b : a2 < b) (a2t : y_lay.getD (a2 - 8) (0, 0) = (20, 16)) (hi1 : ∀ j, y_int a1 j = false) (hi2 : ∀ j, y_int a2 j = false) (hQ : ∀ M', y_I L xs b r M' → Q M') : w_Tiers_clear o M Q := by
  unfold w_Tiers_clear
  rw [h.gr k1 o 4 c1 hk1 hq1]
  refine ⟨h.ob o 9 o8 o_b ot, h.ob c1 7 c18 c1b c1t, 17, ?_⟩
  refine y_fill c18 c1b c1t k3 hk3 hq3 a18 a1b a1t hi1 (fun M1 h1 => ?_) 16 0 M rfl h
  rw [h1.gr k2 o 8 c2 hk2 hq2]
  refine ⟨h1.ob o 9 o8 o_b ot, h1.ob c2 7 c28 c2b c2t, 17, ?_⟩
  exact y_fill c28 c2b c2t k4 hk4 hq4 a28 a2b a2t hi2 hQ 16 0 M1 rfl h1
end INIT
set_option maxRecDepth 100000 in
theorem u81 (n kc ks l0 : Nat) (l1 : Int32) (M : eM) (Q : eM → Prop) : w_Program_init_81 (n + 1) kc ks l0 l1 M Q = ((8 ≤ l1 → ¬ (16 : Int32) < 0 ∧ (16 : Int32).toNatClampNeg ≤ 400000 ∧ 1 ≤ kc ∧ (16 : Int32).toNatClampNeg ≤ ks ∧ ∀ M29 : eM, M29 = e_new M 24 (16 : Int32).toNatClampNeg → e_ob M29 l0 5 ∧ ∀ M30 : eM, M30 = e_sr M29 l0 10 M.1 → ∃ n31 : Nat, w_Program_init_117 n31 (kc - 1) (ks - (16 : Int32).toNatClampNeg) l0 0 M30 Q) ∧ (¬ 8 ≤ l1 → e_ob M l0 5 ∧ 1 ≤ kc ∧ 7 ≤ ks ∧ ∀ M32 : eM, M32 = e_new M 8 0 → e_c0 ≤ M.1 ∧ ∃ kc34 ks35 : Nat, kc34 ≤ (kc - 1) ∧ ks35 ≤ (ks - 7) ∧ w_Shape_init kc34 ks35 M.1 M32 (fun (M33 : eM) => ((e_ar M33 (gr M l0 8) 23 l1 ∧ e_ob M33 M.1 4) ∨ (e_ar M33 (gr M l0 8) 24 l1 ∧ e_ob M33 M.1 8)) ∧ ∀ M36 : eM, M36 = e_sr M33 (gr M l0 8) l1.toNatClampNeg M.1 → (fun kc ks l0 l1 M => w_Program_init_81 n kc ks l0 l1 M Q ) (kc - 1 - kc34) (ks - 7 - ks35) l0 (l1 + 1) M36))) := rfl
set_option maxRecDepth 100000 in
theorem u117 (n kc ks l0 : Nat) (l1 : Int32) (M : eM) (Q : eM → Prop) : w_Program_init_117 (n + 1) kc ks l0 l1 M Q = ((16 ≤ l1 → 1 ≤ kc ∧ 1 ≤ ks ∧ ∀ M37 : eM, M37 = e_new M 7 0 → e_c0 ≤ M.1 ∧ ∃ kc39 ks40 : Nat, kc39 ≤ (kc - 1) ∧ ks40 ≤ (ks - 1) ∧ w_Row_init kc39 ks40 M.1 64 M37 (fun (M38 : eM) => e_ob M38 l0 5 ∧ ∀ M41 : eM, M41 = e_sr M38 l0 11 M.1 → 1 ≤ (kc - 1 - kc39) ∧ 1 ≤ (ks - 1 - ks40) ∧ ∀ M42 : eM, M42 = e_new M41 7 0 → e_c0 ≤ M41.1 ∧ ∃ kc44 ks45 : Nat, kc44 ≤ (kc - 1 - kc39 - 1) ∧ ks45 ≤ (ks - 1 - ks40 - 1) ∧ w_Row_init kc44 ks45 M41.1 1500 M42 (fun (M43 : eM) => e_ob M43 l0 5 ∧ ∀ M46 : eM, M46 = e_sr M43 l0 12 M41.1 → 1 ≤ (kc - 1 - kc39 - 1 - kc44) ∧ 1 ≤ (ks - 1 - ks40 - 1 - ks45) ∧ ∀ M47 : eM, M47 = e_new M46 7 0 → e_c0 ≤ M46.1 ∧ ∃ kc49 ks50 : Nat, kc49 ≤ (kc - 1 - kc39 - 1 - kc44 - 1) ∧ ks50 ≤ (ks - 1 - ks40 - 1 - ks45 - 1) ∧ w_Row_init kc49 ks50 M46.1 1500 M47 (fun (M48 : eM) => e_ob M48 l0 5 ∧ ∀ M51 : eM, M51 = e_sr M48 l0 13 M46.1 → 1 ≤ (kc - 1 - kc39 - 1 - kc44 - 1 - kc49) ∧ 1 ≤ (ks - 1 - ks40 - 1 - ks45 - 1 - ks50) ∧ ∀ M52 : eM, M52 = e_new M51 7 0 → e_c0 ≤ M51.1 ∧ ∃ kc54 ks55 : Nat, kc54 ≤ (kc - 1 - kc39 - 1 - kc44 - 1 - kc49 - 1) ∧ ks55 ≤ (ks - 1 - ks40 - 1 - ks45 - 1 - ks50 - 1) ∧ w_Row_init kc54 ks55 M51.1 1500 M52 (fun (M53 : eM) => e_ob M53 l0 5 ∧ ∀ M56 : eM, M56 = e_sr M53 l0 15 M51.1 → ¬ (1500 : Int32) < 0 ∧ (1500 : Int32).toNatClampNeg ≤ 400000 ∧ 1 ≤ (kc - 1 - kc39 - 1 - kc44 - 1 - kc49 - 1 - kc54) ∧ (1500 : Int32).toNatClampNeg ≤ (ks - 1 - ks40 - 1 - ks45 - 1 - ks50 - 1 - ks55) ∧ ∀ M57 : eM, M57 = e_new M56 21 (1500 : Int32).toNatClampNeg → e_ob M57 l0 5 ∧ ∀ M58 : eM, M58 = e_sr M57 l0 16 M56.1 → ¬ (1500 : Int32) < 0 ∧ (1500 : Int32).toNatClampNeg ≤ 400000 ∧ 1 ≤ (kc - 1 - kc39 - 1 - kc44 - 1 - kc49 - 1 - kc54 - 1) ∧ (1500 : Int32).toNatClampNeg ≤ (ks - 1 - ks40 - 1 - ks45 - 1 - ks50 - 1 - ks55 - (1500 : Int32).toNatClampNeg) ∧ ∀ M59 : eM, M59 = e_new M58 21 (1500 : Int32).toNatClampNeg → e_ob M59 l0 5 ∧ ∀ M60 : eM, M60 = e_sr M59 l0 17 M58.1 → Q M60))))) ∧ (¬ 16 ≤ l1 → e_ob M l0 5 ∧ 1 ≤ kc ∧ 7 ≤ ks ∧ ∀ M61 : eM, M61 = e_new M 8 0 → e_c0 ≤ M.1 ∧ ∃ kc63 ks64 : Nat, kc63 ≤ (kc - 1) ∧ ks64 ≤ (ks - 7) ∧ w_Shape_init kc63 ks64 M.1 M61 (fun (M62 : eM) => ((e_ar M62 (gr M l0 10) 23 l1 ∧ e_ob M62 M.1 4) ∨ (e_ar M62 (gr M l0 10) 24 l1 ∧ e_ob M62 M.1 8)) ∧ ∀ M65 : eM, M65 = e_sr M62 (gr M l0 10) l1.toNatClampNeg M.1 → (fun kc ks l0 l1 M => w_Program_init_117 n kc ks l0 l1 M Q ) (kc - 1 - kc63) (ks - 7 - ks64) l0 (l1 + 1) M65))) := rfl
