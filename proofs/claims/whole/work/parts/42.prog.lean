/-! ===== pure: a Program by its cell P (written by a program) ===== -/
abbrev PP (P : Nat) : Prop := P = 35 ∨ P = 97
theorem po {L xs M P} (h : Y L xs M) (hP : PP P) : e_ob M P 6 := by
  rcases hP with rfl | rfl
  · exact yo35 h
  · exact yo97 h
theorem pr0 {L xs M P} (h : Y L xs M) (hP : PP P) : gr M P 0 = P + 1 := by
  rcases hP with rfl | rfl
  · exact yr35_0 h
  · exact yr97_0 h
theorem pr3 {L xs M P} (h : Y L xs M) (hP : PP P) : gr M P 3 = P + 2 := by
  rcases hP with rfl | rfl
  · exact yr35_3 h
  · exact yr97_3 h
theorem pr4 {L xs M P} (h : Y L xs M) (hP : PP P) : gr M P 4 = P + 3 := by
  rcases hP with rfl | rfl
  · exact yr35_4 h
  · exact yr97_4 h
theorem pr5 {L xs M P} (h : Y L xs M) (hP : PP P) : gr M P 5 = P + 4 := by
  rcases hP with rfl | rfl
  · exact yr35_5 h
  · exact yr97_5 h
theorem pr6 {L xs M P} (h : Y L xs M) (hP : PP P) : gr M P 6 = P + 5 := by
  rcases hP with rfl | rfl
  · exact yr35_6 h
  · exact yr97_6 h
theorem pr8 {L xs M P} (h : Y L xs M) (hP : PP P) : gr M P 8 = P + 6 := by
  rcases hP with rfl | rfl
  · exact yr35_8 h
  · exact yr97_8 h
theorem pr10 {L xs M P} (h : Y L xs M) (hP : PP P) : gr M P 10 = P + 23 := by
  rcases hP with rfl | rfl
  · exact yr35_10 h
  · exact yr97_10 h
theorem pr11 {L xs M P} (h : Y L xs M) (hP : PP P) : gr M P 11 = P + 56 := by
  rcases hP with rfl | rfl
  · exact yr35_11 h
  · exact yr97_11 h
theorem pr12 {L xs M P} (h : Y L xs M) (hP : PP P) : gr M P 12 = P + 57 := by
  rcases hP with rfl | rfl
  · exact yr35_12 h
  · exact yr97_12 h
theorem pr13 {L xs M P} (h : Y L xs M) (hP : PP P) : gr M P 13 = P + 58 := by
  rcases hP with rfl | rfl
  · exact yr35_13 h
  · exact yr97_13 h
theorem pr15 {L xs M P} (h : Y L xs M) (hP : PP P) : gr M P 15 = P + 59 := by
  rcases hP with rfl | rfl
  · exact yr35_15 h
  · exact yr97_15 h
theorem pr16 {L xs M P} (h : Y L xs M) (hP : PP P) : gr M P 16 = P + 60 := by
  rcases hP with rfl | rfl
  · exact yr35_16 h
  · exact yr97_16 h
theorem pr17 {L xs M P} (h : Y L xs M) (hP : PP P) : gr M P 17 = P + 61 := by
  rcases hP with rfl | rfl
  · exact yr35_17 h
  · exact yr97_17 h
theorem pa1 {L xs M P} (h : Y L xs M) (hP : PP P) (i : Int32) : e_ar M (P + 1) 20 i ↔ vp_in i 1500 := by
  rcases hP with rfl | rfl
  · exact ya36 h i
  · exact ya98 h i
theorem pi1 {L xs M P} (h : Y L xs M) (hP : PP P) (i : Int32) : e_ai M (P + 1) i ↔ vp_in i 1500 := by
  rcases hP with rfl | rfl
  · exact yi36 h i
  · exact yi98 h i
theorem pa2 {L xs M P} (h : Y L xs M) (hP : PP P) (i : Int32) : e_ar M (P + 2) 20 i ↔ vp_in i 8 := by
  rcases hP with rfl | rfl
  · exact ya37 h i
  · exact ya99 h i
theorem pi2 {L xs M P} (h : Y L xs M) (hP : PP P) (i : Int32) : e_ai M (P + 2) i ↔ vp_in i 8 := by
  rcases hP with rfl | rfl
  · exact yi37 h i
  · exact yi99 h i
theorem pa3 {L xs M P} (h : Y L xs M) (hP : PP P) (i : Int32) : e_ar M (P + 3) 20 i ↔ vp_in i 8 := by
  rcases hP with rfl | rfl
  · exact ya38 h i
  · exact ya100 h i
theorem pi3 {L xs M P} (h : Y L xs M) (hP : PP P) (i : Int32) : e_ai M (P + 3) i ↔ vp_in i 8 := by
  rcases hP with rfl | rfl
  · exact yi38 h i
  · exact yi100 h i
theorem pa4 {L xs M P} (h : Y L xs M) (hP : PP P) (i : Int32) : e_ar M (P + 4) 20 i ↔ vp_in i 8 := by
  rcases hP with rfl | rfl
  · exact ya39 h i
  · exact ya101 h i
theorem pi4 {L xs M P} (h : Y L xs M) (hP : PP P) (i : Int32) : e_ai M (P + 4) i ↔ vp_in i 8 := by
  rcases hP with rfl | rfl
  · exact yi39 h i
  · exact yi101 h i
theorem pa5 {L xs M P} (h : Y L xs M) (hP : PP P) (i : Int32) : e_ar M (P + 5) 20 i ↔ vp_in i 64 := by
  rcases hP with rfl | rfl
  · exact ya40 h i
  · exact ya102 h i
theorem pi5 {L xs M P} (h : Y L xs M) (hP : PP P) (i : Int32) : e_ai M (P + 5) i ↔ vp_in i 64 := by
  rcases hP with rfl | rfl
  · exact yi40 h i
  · exact yi102 h i
theorem pa6 {L xs M P} (h : Y L xs M) (hP : PP P) (i : Int32) : e_ar M (P + 6) 24 i ↔ vp_in i 8 := by
  rcases hP with rfl | rfl
  · exact ya41 h i
  · exact ya103 h i
theorem pa23 {L xs M P} (h : Y L xs M) (hP : PP P) (i : Int32) : e_ar M (P + 23) 24 i ↔ vp_in i 16 := by
  rcases hP with rfl | rfl
  · exact ya58 h i
  · exact ya120 h i
theorem pa56 {L xs M P} (h : Y L xs M) (hP : PP P) (i : Int32) : e_ar M (P + 56) 20 i ↔ vp_in i 64 := by
  rcases hP with rfl | rfl
  · exact ya91 h i
  · exact ya153 h i
theorem pi56 {L xs M P} (h : Y L xs M) (hP : PP P) (i : Int32) : e_ai M (P + 56) i ↔ vp_in i 64 := by
  rcases hP with rfl | rfl
  · exact yi91 h i
  · exact yi153 h i
theorem pa57 {L xs M P} (h : Y L xs M) (hP : PP P) (i : Int32) : e_ar M (P + 57) 20 i ↔ vp_in i 1500 := by
  rcases hP with rfl | rfl
  · exact ya92 h i
  · exact ya154 h i
theorem pi57 {L xs M P} (h : Y L xs M) (hP : PP P) (i : Int32) : e_ai M (P + 57) i ↔ vp_in i 1500 := by
  rcases hP with rfl | rfl
  · exact yi92 h i
  · exact yi154 h i
theorem pa58 {L xs M P} (h : Y L xs M) (hP : PP P) (i : Int32) : e_ar M (P + 58) 20 i ↔ vp_in i 1500 := by
  rcases hP with rfl | rfl
  · exact ya93 h i
  · exact ya155 h i
theorem pi58 {L xs M P} (h : Y L xs M) (hP : PP P) (i : Int32) : e_ai M (P + 58) i ↔ vp_in i 1500 := by
  rcases hP with rfl | rfl
  · exact yi93 h i
  · exact yi155 h i
theorem pa59 {L xs M P} (h : Y L xs M) (hP : PP P) (i : Int32) : e_ar M (P + 59) 20 i ↔ vp_in i 1500 := by
  rcases hP with rfl | rfl
  · exact ya94 h i
  · exact ya156 h i
theorem pi59 {L xs M P} (h : Y L xs M) (hP : PP P) (i : Int32) : e_ai M (P + 59) i ↔ vp_in i 1500 := by
  rcases hP with rfl | rfl
  · exact yi94 h i
  · exact yi156 h i
theorem pa60 {L xs M P} (h : Y L xs M) (hP : PP P) (i : Int32) : e_ar M (P + 60) 21 i ↔ vp_in i 1500 := by
  rcases hP with rfl | rfl
  · exact ya95 h i
  · exact ya157 h i
theorem pa61 {L xs M P} (h : Y L xs M) (hP : PP P) (i : Int32) : e_ar M (P + 61) 21 i ↔ vp_in i 1500 := by
  rcases hP with rfl | rfl
  · exact ya96 h i
  · exact ya158 h i
theorem y_dec8 : ∀ s, s < 8 → ∀ P, P = 35 ∨ P = 97 → (P + 6, s, P + 7 + 2 * s) ∈ y_refs ∧ (P + 7 + 2 * s, 0, P + 8 + 2 * s) ∈ y_refs ∧ (y_lay.getD (P + 7 + 2 * s - 8) (0, 0)) = (8, 0) ∧ (y_lay.getD (P + 8 + 2 * s - 8) (0, 0)) = (20, 4) := by
  intro s hs P hP
  have hc : s = 0 ∨ s = 1 ∨ s = 2 ∨ s = 3 ∨ s = 4 ∨ s = 5 ∨ s = 6 ∨ s = 7 := by omega
  rcases hP with rfl | rfl <;> rcases hc with rfl | rfl | rfl | rfl | rfl | rfl | rfl | rfl <;> decide
theorem y_dec16 : ∀ s, s < 16 → ∀ P, P = 35 ∨ P = 97 → (P + 23, s, P + 24 + 2 * s) ∈ y_refs ∧ (P + 24 + 2 * s, 0, P + 25 + 2 * s) ∈ y_refs ∧ (y_lay.getD (P + 24 + 2 * s - 8) (0, 0)) = (8, 0) ∧ (y_lay.getD (P + 25 + 2 * s - 8) (0, 0)) = (20, 4) := by
  intro s hs P hP
  have hc : s = 0 ∨ s = 1 ∨ s = 2 ∨ s = 3 ∨ s = 4 ∨ s = 5 ∨ s = 6 ∨ s = 7 ∨ s = 8 ∨ s = 9 ∨ s = 10 ∨ s = 11 ∨ s = 12 ∨ s = 13 ∨ s = 14 ∨ s = 15 := by omega
  rcases hP with rfl | rfl <;> rcases hc with rfl | rfl | rfl | rfl | rfl | rfl | rfl | rfl | rfl | rfl | rfl | rfl | rfl | rfl | rfl | rfl <;> decide
theorem psr {L xs M P s} (h : Y L xs M) (hP : PP P) (hs : s < 8) : gr M (P + 6) s = P + 7 + 2 * s := h.r _ _ _ (y_dec8 s hs P hP).1
theorem pst {L xs M P s} (h : Y L xs M) (hP : PP P) (hs : s < 8) : gr M (P + 7 + 2 * s) 0 = P + 8 + 2 * s := h.r _ _ _ (y_dec8 s hs P hP).2.1
theorem pso {L xs M P s} (h : Y L xs M) (hP : PP P) (hs : s < 8) : e_ob M (P + 7 + 2 * s) 8 := h.ob _ _ (by omega) (by rcases hP with rfl | rfl <;> omega) (by rw [(y_dec8 s hs P hP).2.2.1])
theorem psa {L xs M P s} (h : Y L xs M) (hP : PP P) (hs : s < 8) (i : Int32) : e_ar M (P + 8 + 2 * s) 20 i ↔ vp_in i 4 := h.ar _ _ _ _ (by omega) (by rcases hP with rfl | rfl <;> omega) (y_dec8 s hs P hP).2.2.2
theorem psi {L xs M P s} (h : Y L xs M) (hP : PP P) (hs : s < 8) (i : Int32) : e_ai M (P + 8 + 2 * s) i ↔ vp_in i 4 := h.ai _ _ _ (by omega) (by rcases hP with rfl | rfl <;> omega) (y_dec8 s hs P hP).2.2.2
theorem pmr {L xs M P s} (h : Y L xs M) (hP : PP P) (hs : s < 16) : gr M (P + 23) s = P + 24 + 2 * s := h.r _ _ _ (y_dec16 s hs P hP).1
theorem pmt {L xs M P s} (h : Y L xs M) (hP : PP P) (hs : s < 16) : gr M (P + 24 + 2 * s) 0 = P + 25 + 2 * s := h.r _ _ _ (y_dec16 s hs P hP).2.1
theorem pmo {L xs M P s} (h : Y L xs M) (hP : PP P) (hs : s < 16) : e_ob M (P + 24 + 2 * s) 8 := h.ob _ _ (by omega) (by rcases hP with rfl | rfl <;> omega) (by rw [(y_dec16 s hs P hP).2.2.1])
theorem pma {L xs M P s} (h : Y L xs M) (hP : PP P) (hs : s < 16) (i : Int32) : e_ar M (P + 25 + 2 * s) 20 i ↔ vp_in i 4 := h.ar _ _ _ _ (by omega) (by rcases hP with rfl | rfl <;> omega) (y_dec16 s hs P hP).2.2.2
theorem pmi {L xs M P s} (h : Y L xs M) (hP : PP P) (hs : s < 16) (i : Int32) : e_ai M (P + 25 + 2 * s) i ↔ vp_in i 4 := h.ai _ _ _ (by omega) (by rcases hP with rfl | rfl <;> omega) (y_dec16 s hs P hP).2.2.2
/-- only ints of the cells of s may have changed -/
def CI (s : Nat → Prop) (M M' : eM) : Prop := M'.1 = M.1 ∧ M'.2.1 = M.2.1 ∧ M'.2.2.2.1 = M.2.2.2.1 ∧ M'.2.2.2.2 = M.2.2.2.2 ∧ ∀ a, ¬ s a → M'.2.2.1 a = M.2.2.1 a
theorem CI.rf {s : Nat → Prop} (M : eM) : CI s M M := ⟨rfl, rfl, rfl, rfl, fun _ _ => rfl⟩
theorem CI.tr {s t u : Nat → Prop} {M M' M'' : eM} (h : CI s M M') (g : CI t M' M'') (hs : ∀ a, s a → u a) (ht : ∀ a, t a → u a) : CI u M M'' :=
  ⟨g.1.trans h.1, g.2.1.trans h.2.1, g.2.2.1.trans h.2.2.1, g.2.2.2.1.trans h.2.2.2.1, fun a ha => (g.2.2.2.2 a (fun z => ha (ht a z))).trans (h.2.2.2.2 a (fun z => ha (hs a z)))⟩
theorem CI.si {s : Nat → Prop} {M M' : eM} (h : CI s M M') {a j : Nat} {x : Int32} (hs : s a) : CI s M (e_si M' a j x) := by
  refine ⟨h.1, h.2.1, h.2.2.1, h.2.2.2.1, fun b hb => ?_⟩
  rw [← h.2.2.2.2 b hb]
  have : b ≠ a := fun e => hb (e ▸ hs)
  funext k
  show (if b = a ∧ k = j then x else M'.2.2.1 b k) = _
  rw [if_neg (fun z => this z.1)]
theorem CI.gi {s : Nat → Prop} {M M' : eM} (h : CI s M M') {a : Nat} (hs : ¬ s a) (j : Nat) : gi M' a j = gi M a j := congrFun (h.2.2.2.2 a hs) j
theorem CI.gr {s : Nat → Prop} {M M' : eM} (h : CI s M M') (a j : Nat) : gr M' a j = gr M a j := congrFun (congrFun h.2.2.2.1 a) j
theorem CI.gl {s : Nat → Prop} {M M' : eM} (h : CI s M M') (a j : Nat) : gl M' a j = gl M a j := congrFun (congrFun h.2.2.1 a) j
theorem CI.Y {s : Nat → Prop} {L xs} {M M' : eM} (h : CI s M M') (hs : ∀ a, a < 8 → ¬ s a) (hY : Y L xs M) : Y L xs M' := by
  obtain ⟨⟨a1, a2, a3, a4, a5, a6⟩, b, c, d, e, f⟩ := hY
  refine ⟨⟨by rw [h.1]; exact a1, by rw [h.2.1]; exact a2, by rw [h.2.1]; exact a3, by rw [h.2.1]; exact a4, by rw [h.2.1]; exact a5, by rw [h.2.1]; exact a6⟩, fun q hq => ?_, fun j => ?_, fun j => ?_, fun j => ?_, fun j => ?_⟩
  · rw [h.gr]; exact b q hq
  · rw [h.gi (hs 1 (by decide))]; exact c j
  · rw [h.gi (hs 2 (by decide))]; exact d j
  · rw [h.gi (hs 3 (by decide))]; exact e j
  · rw [h.gi (hs 4 (by decide))]; exact f j
theorem Y.si {L xs} {M : eM} (h : Y L xs M) {a j : Nat} {x : Int32} (ha : 8 ≤ a) : Y L xs (e_si M a j x) :=
  CI.Y (s := fun b => b = a) (CI.si (CI.rf M) rfl) (fun b hb => by omega) h
theorem ob_si (M : eM) (a j : Nat) (x : Int32) (o c : Nat) : e_ob (e_si M a j x) o c = e_ob M o c := rfl
theorem ar_si (M : eM) (a j : Nat) (x : Int32) (o c : Nat) (i : Int32) : e_ar (e_si M a j x) o c i = e_ar M o c i := rfl
theorem ai_si (M : eM) (a j : Nat) (x : Int32) (o : Nat) (i : Int32) : e_ai (e_si M a j x) o i = e_ai M o i := rfl
theorem gs (M : eM) (a j : Nat) (x : Int32) : gi (e_si M a j x) a j = x := by rw [gi_si, if_pos ⟨rfl, rfl⟩]
theorem gd {M : eM} {a j : Nat} {x : Int32} {b k : Nat} (h : ¬ (b = a ∧ k = j)) : gi (e_si M a j x) b k = gi M b k := by rw [gi_si, if_neg h]
