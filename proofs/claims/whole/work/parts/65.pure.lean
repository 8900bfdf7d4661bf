/-! ===== pure: instructions ===== -/
def szN : List Nat := [2, 3, 1, 2, 2, 1, 1, 1, 1, 1, 1, 1, 1, 1, 1, 1, 1, 1, 1, 1, 3, 2, 2, 2, 2, 2, 2, 2, 2, 2, 2, 2, 2, 2, 2, 2, 2, 2, 2, 3, 3, 1, 1, 1, 1, 2, 2, 2, 2, 1, 1, 1, 1]
theorem szN_ok : ∀ k, k < 53 → e_sz.getD k 0 = N (szN.getD k 0) ∧ 1 ≤ szN.getD k 0 ∧ szN.getD k 0 ≤ 3 := by decide
theorem Y.sz {L xs M} (h : Y L xs M) {k : Nat} (hk : k < 53) : gi M 2 k = N (szN.getD k 0) := by
  rw [h.2.2.2.1 k]; exact (szN_ok k hk).1
/-- a byte of a method's code -/
def cdD (D : eF) (m p : Nat) : Nat := D 1 (D 5 m + p)
def il0 (D : eF) (m p : Nat) : Nat := if 53 < cdD D m p then 0 else if cdD D m p = 53 then (if p + 1 < D 174 m then cdD D m (p + 1) + 3 else 0) else szN.getD (cdD D m p) 0
/-- how many bytes the instruction has that begins at p, 0: it is none -/
def il (D : eF) (m p : Nat) : Nat := if il0 D m p = 0 ∨ D 174 m < p + il0 D m p then 0 else il0 D m p
def bgF (D : eF) (m : Nat) : Nat → Nat → Nat → Prop
  | 0, _, _ => False
  | n + 1, p, j => p < D 174 m ∧ (j = p ∨ (il D m p ≠ 0 ∧ bgF D m n (p + il D m p) j))
/-- an instruction begins at j -/
def bg (D : eF) (m j : Nat) : Prop := bgF D m 121 0 j
theorem bgF_ge {D m} : ∀ {n p j}, bgF D m n p j → p ≤ j ∧ j < D 174 m
  | 0, _, _, h => h.elim
  | n + 1, p, j, h => by
    obtain ⟨h1, rfl | ⟨h2, h3⟩⟩ := h
    · exact ⟨Nat.le_refl _, h1⟩
    · have := bgF_ge h3; omega
theorem bgF_eq {D m} : ∀ n n' p j, D 174 m < p + n → D 174 m < p + n' → bgF D m n p j → bgF D m n' p j
  | 0, _, p, j, _, _, h => h.elim
  | n + 1, 0, p, j, _, h', h => by have := h.1; omega
  | n + 1, n' + 1, p, j, h1, h2, h => by
    obtain ⟨a, rfl | ⟨b, c⟩⟩ := h
    · exact ⟨a, Or.inl rfl⟩
    · exact ⟨a, Or.inr ⟨b, bgF_eq n n' _ j (by omega) (by omega) c⟩⟩
theorem bgF_nx {D m} : ∀ n p j, D 174 m < p + n → bgF D m n p j → il D m j ≠ 0 → j + il D m j < D 174 m → bgF D m n p (j + il D m j)
  | 0, _, _, _, h, _, _ => h.elim
  | n + 1, p, j, h1, h, h2, h3 => by
    obtain ⟨a, rfl | ⟨b, c⟩⟩ := h
    · refine ⟨a, Or.inr ⟨h2, ?_⟩⟩
      cases n with
      | zero => omega
      | succ n => exact ⟨h3, Or.inl rfl⟩
    · exact ⟨a, Or.inr ⟨b, bgF_nx n _ j (by omega) c h2 h3⟩⟩
theorem bg_nx {D m j} (hz : D 174 m ≤ 120) (h : bg D m j) (h2 : il D m j ≠ 0) (h3 : j + il D m j < D 174 m) : bg D m (j + il D m j) := bgF_nx 121 0 j (by omega) h h2 h3
theorem bg_0 {D m} (h : 1 ≤ D 174 m) : bg D m 0 := ⟨by omega, Or.inl rfl⟩
theorem bg_lt {D m j} (h : bg D m j) : j < D 174 m := (bgF_ge h).2
/-- the walk is at p -/
def bgW (D : eF) (m p : Nat) : Prop := ∀ j, p ≤ j → (bg D m j ↔ bgF D m 121 p j)
theorem bgW_0 {D m} : bgW D m 0 := fun j _ => Iff.rfl
theorem bgW_st {D m p} (hz : D 174 m ≤ 120) (h : bgW D m p) (hp : p < D 174 m) : bg D m p ∧ (il D m p = 0 → ∀ j, p < j → ¬ bg D m j) ∧ (il D m p ≠ 0 → bgW D m (p + il D m p) ∧ ∀ j, p < j → j < p + il D m p → ¬ bg D m j) := by
  refine ⟨(h p (Nat.le_refl _)).mpr ⟨hp, Or.inl rfl⟩, fun e j hj hb => ?_, fun e => ⟨fun j hj => ?_, fun j h1 h2 hb => ?_⟩⟩
  · obtain ⟨-, rfl | ⟨b, c⟩⟩ := (h j (by omega)).mp hb
    · omega
    · exact b e
  · constructor
    · intro hb
      obtain ⟨-, rfl | ⟨b, c⟩⟩ := (h j (by omega)).mp hb
      · omega
      · exact bgF_eq 120 121 _ j (by omega) (by omega) c
    · intro hb
      exact (h j (by omega)).mpr ⟨hp, Or.inr ⟨e, bgF_eq 121 120 _ j (by omega) (by omega) hb⟩⟩
  · obtain ⟨-, rfl | ⟨b, c⟩⟩ := (h j (by omega)).mp hb
    · omega
    · have := bgF_ge c; omega
theorem il_le {D m p} (h : il D m p ≠ 0) : il D m p = il0 D m p ∧ p + il D m p ≤ D 174 m ∧ cdD D m p ≤ 53 := by
  unfold il at h ⊢
  by_cases c : il0 D m p = 0 ∨ D 174 m < p + il0 D m p
  · rw [if_pos c] at h; exact absurd rfl h
  · rw [if_neg c]
    refine ⟨rfl, by omega, ?_⟩
    by_cases e : 53 < cdD D m p
    · exact absurd (Or.inl (by unfold il0; rw [if_pos e])) c
    · omega
theorem m_opLong {M op} {Q : Int32 → eM → Prop} (ho : op < 53) (hQ : Q (N (szN.getD op 0)) M) : w_Mod_opLong (N op) M Q := by
  have h216 : ∀ k, op = k → 48 < k → w_Mod_opLong_216 (N op) M Q := by
    intro k e hk
    have : op = 49 ∨ op = 50 ∨ op = 51 ∨ op = 52 := by omega
    rcases this with rfl | rfl | rfl | rfl <;> exact ⟨fun z => absurd z (by decide), fun _ => ⟨fun _ => hQ, fun z => absurd (by decide) z⟩⟩
  unfold w_Mod_opLong
  refine ⟨fun e => by rw [show (0 : Int32) = N 0 from rfl, N_eq (by omega) (by omega)] at e; subst e; exact hQ, fun e0 => ⟨fun e => by rw [show (1 : Int32) = N 1 from rfl, N_eq (by omega) (by omega)] at e; subst e; exact hQ, fun e1 => ⟨fun e => by rw [show (2 : Int32) = N 2 from rfl, N_eq (by omega) (by omega)] at e; subst e; exact ⟨fun _ => hQ, fun z => absurd (by decide) z⟩, fun e2 => ⟨fun e => by rw [show (3 : Int32) = N 3 from rfl, N_eq (by omega) (by omega)] at e; subst e; exact hQ, fun e3 => ⟨fun e => by rw [show (4 : Int32) = N 4 from rfl, N_eq (by omega) (by omega)] at e; subst e; exact hQ, fun e4 => ⟨fun e => by rw [show (5 : Int32) = N 5 from rfl, N_eq (by omega) (by omega)] at e; subst e; exact ⟨fun _ => hQ, fun z => absurd (by decide) z⟩, fun e5 => ⟨fun e => by rw [show (6 : Int32) = N 6 from rfl, N_eq (by omega) (by omega)] at e; subst e; exact ⟨fun _ => hQ, fun z => absurd (by decide) z⟩, fun e6 => ⟨fun e => by rw [show (7 : Int32) = N 7 from rfl, N_eq (by omega) (by omega)] at e; subst e; exact ⟨fun _ => hQ, fun z => absurd (by decide) z⟩, fun e7 => ⟨fun e => by rw [show (8 : Int32) = N 8 from rfl, N_eq (by omega) (by omega)] at e; subst e; exact ⟨fun _ => hQ, fun z => absurd (by decide) z⟩, fun e8 => ⟨fun e => by rw [show (9 : Int32) = N 9 from rfl, N_eq (by omega) (by omega)] at e; subst e; exact ⟨fun _ => hQ, fun z => absurd (by decide) z⟩, fun e9 => ⟨fun e => by rw [show (10 : Int32) = N 10 from rfl, N_eq (by omega) (by omega)] at e; subst e; exact ⟨fun _ => hQ, fun z => absurd (by decide) z⟩, fun e10 => ⟨fun e => by rw [show (11 : Int32) = N 11 from rfl, N_eq (by omega) (by omega)] at e; subst e; exact ⟨fun _ => hQ, fun z => absurd (by decide) z⟩, fun e11 => ⟨fun e => by rw [show (12 : Int32) = N 12 from rfl, N_eq (by omega) (by omega)] at e; subst e; exact ⟨fun _ => hQ, fun z => absurd (by decide) z⟩, fun e12 => ⟨fun e => by rw [show (13 : Int32) = N 13 from rfl, N_eq (by omega) (by omega)] at e; subst e; exact ⟨fun _ => hQ, fun z => absurd (by decide) z⟩, fun e13 => ⟨fun e => by rw [show (14 : Int32) = N 14 from rfl, N_eq (by omega) (by omega)] at e; subst e; exact ⟨fun _ => hQ, fun z => absurd (by decide) z⟩, fun e14 => ⟨fun e => by rw [show (15 : Int32) = N 15 from rfl, N_eq (by omega) (by omega)] at e; subst e; exact ⟨fun _ => hQ, fun z => absurd (by decide) z⟩, fun e15 => ⟨fun e => by rw [show (16 : Int32) = N 16 from rfl, N_eq (by omega) (by omega)] at e; subst e; exact ⟨fun _ => hQ, fun z => absurd (by decide) z⟩, fun e16 => ⟨fun e => by rw [show (17 : Int32) = N 17 from rfl, N_eq (by omega) (by omega)] at e; subst e; exact ⟨fun _ => hQ, fun z => absurd (by decide) z⟩, fun e17 => ⟨fun e => by rw [show (18 : Int32) = N 18 from rfl, N_eq (by omega) (by omega)] at e; subst e; exact ⟨fun _ => hQ, fun z => absurd (by decide) z⟩, fun e18 => ⟨fun e => by rw [show (19 : Int32) = N 19 from rfl, N_eq (by omega) (by omega)] at e; subst e; exact ⟨fun _ => hQ, fun z => absurd (by decide) z⟩, fun e19 => ⟨fun e => by rw [show (20 : Int32) = N 20 from rfl, N_eq (by omega) (by omega)] at e; subst e; exact hQ, fun e20 => ⟨fun e => by rw [show (21 : Int32) = N 21 from rfl, N_eq (by omega) (by omega)] at e; subst e; exact ⟨fun z => absurd z (by decide), fun _ => ⟨fun z => absurd z (by decide), fun _ => hQ⟩⟩, fun e21 => ⟨fun e => by rw [show (22 : Int32) = N 22 from rfl, N_eq (by omega) (by omega)] at e; subst e; exact ⟨fun z => absurd z (by decide), fun _ => ⟨fun z => absurd z (by decide), fun _ => hQ⟩⟩, fun e22 => ⟨fun e => by rw [show (23 : Int32) = N 23 from rfl, N_eq (by omega) (by omega)] at e; subst e; exact ⟨fun z => absurd z (by decide), fun _ => ⟨fun z => absurd z (by decide), fun _ => hQ⟩⟩, fun e23 => ⟨fun e => by rw [show (24 : Int32) = N 24 from rfl, N_eq (by omega) (by omega)] at e; subst e; exact ⟨fun z => absurd z (by decide), fun _ => ⟨fun z => absurd z (by decide), fun _ => hQ⟩⟩, fun e24 => ⟨fun e => by rw [show (25 : Int32) = N 25 from rfl, N_eq (by omega) (by omega)] at e; subst e; exact ⟨fun z => absurd z (by decide), fun _ => ⟨fun z => absurd z (by decide), fun _ => hQ⟩⟩, fun e25 => ⟨fun e => by rw [show (26 : Int32) = N 26 from rfl, N_eq (by omega) (by omega)] at e; subst e; exact ⟨fun z => absurd z (by decide), fun _ => ⟨fun z => absurd z (by decide), fun _ => hQ⟩⟩, fun e26 => ⟨fun e => by rw [show (27 : Int32) = N 27 from rfl, N_eq (by omega) (by omega)] at e; subst e; exact ⟨fun z => absurd z (by decide), fun _ => ⟨fun z => absurd z (by decide), fun _ => hQ⟩⟩, fun e27 => ⟨fun e => by rw [show (28 : Int32) = N 28 from rfl, N_eq (by omega) (by omega)] at e; subst e; exact ⟨fun z => absurd z (by decide), fun _ => ⟨fun z => absurd z (by decide), fun _ => hQ⟩⟩, fun e28 => ⟨fun e => by rw [show (29 : Int32) = N 29 from rfl, N_eq (by omega) (by omega)] at e; subst e; exact ⟨fun z => absurd z (by decide), fun _ => ⟨fun z => absurd z (by decide), fun _ => hQ⟩⟩, fun e29 => ⟨fun e => by rw [show (30 : Int32) = N 30 from rfl, N_eq (by omega) (by omega)] at e; subst e; exact ⟨fun z => absurd z (by decide), fun _ => ⟨fun z => absurd z (by decide), fun _ => hQ⟩⟩, fun e30 => ⟨fun e => by rw [show (31 : Int32) = N 31 from rfl, N_eq (by omega) (by omega)] at e; subst e; exact ⟨fun z => absurd z (by decide), fun _ => ⟨fun z => absurd z (by decide), fun _ => hQ⟩⟩, fun e31 => ⟨fun e => by rw [show (32 : Int32) = N 32 from rfl, N_eq (by omega) (by omega)] at e; subst e; exact ⟨fun z => absurd z (by decide), fun _ => ⟨fun z => absurd z (by decide), fun _ => hQ⟩⟩, fun e32 => ⟨fun e => by rw [show (33 : Int32) = N 33 from rfl, N_eq (by omega) (by omega)] at e; subst e; exact ⟨fun z => absurd z (by decide), fun _ => ⟨fun z => absurd z (by decide), fun _ => hQ⟩⟩, fun e33 => ⟨fun e => by rw [show (34 : Int32) = N 34 from rfl, N_eq (by omega) (by omega)] at e; subst e; exact ⟨fun z => absurd z (by decide), fun _ => ⟨fun z => absurd z (by decide), fun _ => hQ⟩⟩, fun e34 => ⟨fun e => by rw [show (35 : Int32) = N 35 from rfl, N_eq (by omega) (by omega)] at e; subst e; exact ⟨fun z => absurd z (by decide), fun _ => ⟨fun z => absurd z (by decide), fun _ => hQ⟩⟩, fun e35 => ⟨fun e => by rw [show (36 : Int32) = N 36 from rfl, N_eq (by omega) (by omega)] at e; subst e; exact ⟨fun z => absurd z (by decide), fun _ => ⟨fun z => absurd z (by decide), fun _ => hQ⟩⟩, fun e36 => ⟨fun e => by rw [show (37 : Int32) = N 37 from rfl, N_eq (by omega) (by omega)] at e; subst e; exact ⟨fun z => absurd z (by decide), fun _ => ⟨fun z => absurd z (by decide), fun _ => hQ⟩⟩, fun e37 => ⟨fun e => by rw [show (38 : Int32) = N 38 from rfl, N_eq (by omega) (by omega)] at e; subst e; exact hQ, fun e38 => ⟨fun e => by rw [show (39 : Int32) = N 39 from rfl, N_eq (by omega) (by omega)] at e; subst e; exact hQ, fun e39 => ⟨fun e => by rw [show (40 : Int32) = N 40 from rfl, N_eq (by omega) (by omega)] at e; subst e; exact hQ, fun e40 => ⟨fun e => by rw [show (41 : Int32) = N 41 from rfl, N_eq (by omega) (by omega)] at e; subst e; exact ⟨fun z => absurd z (by decide), fun _ => ⟨fun _ => hQ, fun z => absurd (by decide) z⟩⟩, fun e41 => ⟨fun e => by rw [show (42 : Int32) = N 42 from rfl, N_eq (by omega) (by omega)] at e; subst e; exact ⟨fun z => absurd z (by decide), fun _ => ⟨fun _ => hQ, fun z => absurd (by decide) z⟩⟩, fun e42 => ⟨fun e => by rw [show (43 : Int32) = N 43 from rfl, N_eq (by omega) (by omega)] at e; subst e; exact ⟨fun z => absurd z (by decide), fun _ => ⟨fun _ => hQ, fun z => absurd (by decide) z⟩⟩, fun e43 => ⟨fun e => by rw [show (44 : Int32) = N 44 from rfl, N_eq (by omega) (by omega)] at e; subst e; exact ⟨fun z => absurd z (by decide), fun _ => ⟨fun _ => hQ, fun z => absurd (by decide) z⟩⟩, fun e44 => ⟨fun e => by rw [show (45 : Int32) = N 45 from rfl, N_eq (by omega) (by omega)] at e; subst e; exact hQ, fun e45 => ⟨fun e => by rw [show (46 : Int32) = N 46 from rfl, N_eq (by omega) (by omega)] at e; subst e; exact hQ, fun e46 => ⟨fun e => by rw [show (47 : Int32) = N 47 from rfl, N_eq (by omega) (by omega)] at e; subst e; exact hQ, fun e47 => ⟨fun e => by rw [show (48 : Int32) = N 48 from rfl, N_eq (by omega) (by omega)] at e; subst e; exact hQ, fun e48 => h216 op rfl (by
    simp (disch := omega) only [N_lit, N_eq] at e0 e1 e2 e3 e4 e5 e6 e7 e8 e9 e10 e11 e12 e13 e14 e15 e16 e17 e18 e19 e20 e21 e22 e23 e24 e25 e26 e27 e28 e29 e30 e31 e32 e33 e34 e35 e36 e37 e38 e39 e40 e41 e42 e43 e44 e45 e46 e47 e48
    omega)⟩⟩⟩⟩⟩⟩⟩⟩⟩⟩⟩⟩⟩⟩⟩⟩⟩⟩⟩⟩⟩⟩⟩⟩⟩⟩⟩⟩⟩⟩⟩⟩⟩⟩⟩⟩⟩⟩⟩⟩⟩⟩⟩⟩⟩⟩⟩⟩⟩
theorem m_byteAt {L xs D S m p Q} (hY : Y L xs S) (hD : KD D) (hK : KM D S) (hm : m < D 0 2) (hp : p < D 174 m) (hQ : Q (N (cdD D m p)) S) : w_Mod_byteAt 159 (N m) (N p) S Q := by
  have h1 := hD.1
  have h2 := (hD.2.2.2.1 m hm).1
  have h3 := (hK.2.2.2.1 m hm).2.2.2.2.2.2 p hp
  unfold w_Mod_byteAt
  simp (disch := omega) only [N_lit, yo159 hY, true_and, yr159_26 hY, N_mul, N_add, yi175 hY, N_in, N_nat, h3]
  exact ⟨by omega, hQ⟩
theorem m_longOf {L xs D S m p Q} (hY : Y L xs S) (hD : KD D) (hK : KM D S) (hm : m < D 0 2) (hp : p < D 174 m) (hQ : Q (if il D m p = 0 then -1 else N (il D m p)) S) : w_Mod_longOf 159 (N m) (N p) S Q := by
  have h1 := hD.1
  have h2 := (hD.2.2.2.1 m hm).1
  have hb : ∀ q, q < D 174 m → cdD D m q < 256 := fun q hq => h1.2.2.2.2.2 _ (by omega)
  have hz := (hK.2.2.2.1 m hm).2.2.2.2.2.1
  have h56 : ∀ n, il0 D m p = n → n ≠ 0 → n < 300 → w_Mod_longOf_56 159 (N m) (N p) (N n) S Q := by
    intro n e hn hl
    unfold w_Mod_longOf_56 w_Mod_longOf_77
    simp (disch := omega) only [yo159 hY, true_and, yr159_25 hY, yi174 hY, N_in, N_nat, hz, N_add, N_le]
    refine ⟨by omega, fun c => ?_, fun c => ?_⟩
    · have : il D m p = n := by unfold il; rw [e, if_neg (by omega)]
      rw [this, if_neg hn] at hQ; exact hQ
    · have : il D m p = 0 := by unfold il; rw [e, if_pos (by omega)]
      rw [this] at hQ; exact hQ
  unfold w_Mod_longOf
  refine ⟨yo159 hY, m_byteAt hY hD hK hm hp ?_⟩
  have hop := hb p hp
  unfold w_Mod_longOf_31
  simp (disch := omega) only [N_lit, N_lt, N_eq, yo159 hY, true_and, yr159_25 hY, yi174 hY, N_in, N_nat, hz, N_add]
  refine ⟨fun c => ?_, fun c => ⟨fun e => ?_, fun e => ⟨by omega, fun c2 => ?_, fun c2 => ?_⟩⟩⟩
  · have : il D m p = 0 := by unfold il; rw [if_pos (Or.inl (by unfold il0; rw [if_pos c]))]
    rw [this] at hQ; exact hQ
  · unfold w_Mod_longOf_33
    simp (disch := omega) only [N_lit, N_eq]
    refine ⟨fun _ => m_opLong (by omega) (h56 _ ?_ ?_ ?_), fun z => absurd z e⟩
    · unfold il0; rw [if_neg (by omega), if_neg e]
    · have := (szN_ok (cdD D m p) (by omega)).2; omega
    · have := (szN_ok (cdD D m p) (by omega)).2; omega
  · unfold w_Mod_longOf_33
    simp (disch := omega) only [N_lit, N_eq, yo159 hY, true_and, N_add]
    refine ⟨fun z => absurd e z, fun _ => m_byteAt hY hD hK hm c2 ?_⟩
    have hb1 := hb (p + 1) c2
    rw [N_add]
    refine h56 _ ?_ (by omega) (by omega)
    unfold il0; rw [if_neg (by omega), if_pos e, if_pos c2]; omega
  · have : il D m p = 0 := by unfold il; rw [if_pos (Or.inl (by unfold il0; rw [if_neg c, if_pos e, if_neg c2]))]
    rw [this] at hQ; exact hQ
