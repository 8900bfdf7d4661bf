/-! ===== pure: numbers and memory ===== -/
/-- a number as an int -/
def N (n : Nat) : Int32 := Int32.ofNat n
theorem N_lit (n : Nat) : (@OfNat.ofNat Int32 n _) = N n := rfl
theorem N_add (a b : Nat) : N a + N b = N (a + b) := by simp [N]
theorem N_mul (a b : Nat) : N a * N b = N (a * b) := by simp [N]
theorem N_toInt {a : Nat} (h : a < 2147483648) : (N a).toInt = a := by
  unfold N
  rw [Int32.toInt_ofNat']
  have : Int32.size = 4294967296 := rfl
  apply Int.bmod_eq_of_le <;> omega
theorem N_nat {a : Nat} (h : a < 2147483648) : (N a).toNatClampNeg = a := by
  unfold Int32.toNatClampNeg
  rw [N_toInt h]
  simp
theorem N_sub {a b : Nat} (h : b ≤ a) : N a - N b = N (a - b) := by
  unfold N
  rw [Int32.ofNat_sub _ _ h]
theorem N_lt {a b : Nat} (ha : a < 2147483648) (hb : b < 2147483648) : N a < N b ↔ a < b := by
  rw [Int32.lt_iff_toInt_lt, N_toInt ha, N_toInt hb]; omega
theorem N_le {a b : Nat} (ha : a < 2147483648) (hb : b < 2147483648) : N a ≤ N b ↔ a ≤ b := by
  rw [Int32.le_iff_toInt_le, N_toInt ha, N_toInt hb]; omega
theorem N_eq {a b : Nat} (ha : a < 2147483648) (hb : b < 2147483648) : N a = N b ↔ a = b := by
  rw [← Int32.toInt_inj, N_toInt ha, N_toInt hb]; omega
theorem N_in {a n : Nat} (ha : a < 2147483648) : vp_in (N a) n ↔ a < n := by
  unfold vp_in
  rw [N_nat ha, show (0 : Int32) = N 0 from rfl, N_lt ha (by omega)]
  omega
theorem N_neg {a : Nat} (ha : a < 2147483648) : N a = -1 ↔ False := by
  rw [← Int32.toInt_inj, N_toInt ha]
  constructor
  · intro h
    have : (-1 : Int32).toInt = -1 := rfl
    omega
  · exact False.elim
theorem gi_si (M : eM) (a j : Nat) (x : Int32) (b k : Nat) : gi (e_si M a j x) b k = if b = a ∧ k = j then x else gi M b k := rfl
theorem gi_sl (M : eM) (a j : Nat) (x : Int64) (b k : Nat) : gi (e_sl M a j x) b k = gi M b k := rfl
theorem gi_sr (M : eM) (a j : Nat) (x : Nat) (b k : Nat) : gi (e_sr M a j x) b k = gi M b k := rfl
theorem gl_si (M : eM) (a j : Nat) (x : Int32) (b k : Nat) : gl (e_si M a j x) b k = gl M b k := rfl
theorem gl_sl (M : eM) (a j : Nat) (x : Int64) (b k : Nat) : gl (e_sl M a j x) b k = if b = a ∧ k = j then x else gl M b k := rfl
theorem gl_sr (M : eM) (a j : Nat) (x : Nat) (b k : Nat) : gl (e_sr M a j x) b k = gl M b k := rfl
theorem gr_si (M : eM) (a j : Nat) (x : Int32) (b k : Nat) : gr (e_si M a j x) b k = gr M b k := rfl
theorem gr_sl (M : eM) (a j : Nat) (x : Int64) (b k : Nat) : gr (e_sl M a j x) b k = gr M b k := rfl
theorem gr_sr (M : eM) (a j : Nat) (x : Nat) (b k : Nat) : gr (e_sr M a j x) b k = if b = a ∧ k = j then x else gr M b k := rfl
