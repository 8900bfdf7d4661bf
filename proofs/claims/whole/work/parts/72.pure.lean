/-! ===== pure: eight kinds in a long ===== -/
/-- the long x holds the kinds k, 8 bits each -/
def PKr (x : Int64) (k : Nat → Nat) : Prop := ∀ j, j < 64 → x.toBitVec.getLsbD j = (k (j / 8)).testBit (j % 8)
theorem i8 {i : Nat} (h : i < 8) : i = 0 ∨ i = 1 ∨ i = 2 ∨ i = 3 ∨ i = 4 ∨ i = 5 ∨ i = 6 ∨ i = 7 := by omega
theorem tb256 {a j : Nat} (h : a < 256) (hj : 8 ≤ j) : a.testBit j = false := Nat.testBit_lt_two_pow (Nat.lt_of_lt_of_le h (Nat.le_trans (by decide) (Nat.pow_le_pow_right (by decide) hj)))
theorem shr_b (x : Int64) {i : Nat} (h : i < 8) : (x.toUInt64 >>> ((8 * N i).toInt64.toUInt64 &&& Int64.toUInt64 63)).toBitVec = x.toBitVec >>> (8 * i) := by
  rcases i8 h with rfl | rfl | rfl | rfl | rfl | rfl | rfl | rfl <;> rfl
theorem shl_b (x : Int64) {i : Nat} (h : i < 8) : (x <<< ((8 * N i).toInt64 &&& 63)).toBitVec = x.toBitVec <<< (8 * i) := by
  rcases i8 h with rfl | rfl | rfl | rfl | rfl | rfl | rfl | rfl <;> rfl
theorem ext_b {v : Nat} (h : v < 256) {j : Nat} (hj : j < 64) : (N v).toInt64.toBitVec.getLsbD j = v.testBit j := by
  rw [Int32.toBitVec_toInt64, N_bv, BitVec.getLsbD_signExtend]
  have hm : (BitVec.ofNat 32 v).msb = false := by
    rw [BitVec.msb_eq_getLsbD_last, BitVec.getLsbD_ofNat, tb256 h (by omega)]; simp
  rw [hm]
  by_cases c : j < 32
  · rw [if_pos c, BitVec.getLsbD_ofNat]; simp [c, hj]
  · rw [if_neg c, tb256 h (by omega)]; simp
theorem zk_get {x k i} (h : PKr x k) (hi : i < 8) (hk : k i < 256) : ((((x.toUInt64 >>> ((8 * N i).toInt64.toUInt64 &&& Int64.toUInt64 63)).toInt64).toInt32) &&& 255) = N (k i) := by
  rw [← Int32.toBitVec_inj]
  apply BitVec.eq_of_getLsbD_eq
  intro j hj
  have e1 : (x.toUInt64 >>> ((8 * N i).toInt64.toUInt64 &&& Int64.toUInt64 63)).toInt64.toInt32.toBitVec = (x.toBitVec >>> (8 * i)).signExtend 32 := by
    rw [Int64.toBitVec_toInt32, UInt64.toBitVec_toInt64, shr_b x hi]
  have e2 : (255 : Int32).toBitVec.getLsbD j = decide (j < 8) := by
    rw [show (255 : Int32) = N 255 from rfl, N_bv, BitVec.getLsbD_ofNat, show (255 : Nat) = 2 ^ 8 - 1 from rfl, Nat.testBit_two_pow_sub_one]
    simp [hj]
  rw [Int32.toBitVec_and, BitVec.getLsbD_and, e1, e2, N_bv, BitVec.getLsbD_ofNat, BitVec.getLsbD_signExtend, if_pos (by omega), BitVec.getLsbD_ushiftRight]
  by_cases c : j < 8
  · rw [h (8 * i + j) (by omega), show (8 * i + j) / 8 = i by omega, show (8 * i + j) % 8 = j by omega]
    simp [c, hj]
  · rw [tb256 hk (by omega)]; simp [c]
theorem zk_eq {x y k k'} (h : PKr x k) (h' : PKr y k') (hk : ∀ i, i < 8 → k i < 256) (hk' : ∀ i, i < 8 → k' i < 256) : x = y ↔ ∀ i, i < 8 → k i = k' i := by
  constructor
  · intro e i hi
    have a := zk_get h hi (hk i hi)
    have b := zk_get h' hi (hk' i hi)
    rw [e, b, N_eq (by have := hk' i hi; omega) (by have := hk i hi; omega)] at a
    exact a.symm
  · intro e
    rw [← Int64.toBitVec_inj]
    apply BitVec.eq_of_getLsbD_eq
    intro j hj
    rw [h j hj, h' j hj, e (j / 8) (by omega)]
theorem zk_0 : PKr 0 (fun _ => 0) := by
  intro j hj
  rw [Nat.zero_testBit]
  show (0#64).getLsbD j = false
  simp
theorem zk_or {x k i v} (h : PKr x k) (hi : i < 8) (h0 : k i = 0) (hv : v < 256) : PKr (x ||| ((N v).toInt64 <<< ((8 * N i).toInt64 &&& 63))) (fun j => if j = i then v else k j) := by
  intro j hj
  rw [Int64.toBitVec_or, BitVec.getLsbD_or, h j hj, shl_b _ hi, BitVec.getLsbD_shiftLeft]
  show _ = (if j / 8 = i then v else k (j / 8)).testBit (j % 8)
  by_cases c : j / 8 = i
  · rw [if_pos c, c, h0, Nat.zero_testBit]
    have e1 : ¬ j < 8 * i := by omega
    rw [ext_b hv (by omega), show j - 8 * i = j % 8 by omega]
    simp [hj, e1]
  · rw [if_neg c]
    by_cases c2 : j < 8 * i
    · simp [c2]
    · rw [ext_b hv (by omega), tb256 hv (by omega)]; simp
theorem zk_and {x k i} (h : PKr x k) (hi : i < 8) : PKr (x &&& ((255 <<< ((8 * N i).toInt64 &&& 63)) ^^^ (-1))) (fun j => if j = i then 0 else k j) := by
  intro j hj
  have e2 : ∀ j, j < 64 → (255 : Int64).toBitVec.getLsbD j = decide (j < 8) := by
    intro j hj
    show (255#64).getLsbD j = _
    rw [show (255#64 : BitVec 64) = BitVec.ofNat 64 (2 ^ 8 - 1) from rfl, BitVec.getLsbD_ofNat, Nat.testBit_two_pow_sub_one]
    simp [hj]
  have e3 : ∀ j, j < 64 → (-1 : Int64).toBitVec.getLsbD j = true := by
    intro j hj
    show (BitVec.allOnes 64).getLsbD j = true
    rw [BitVec.getLsbD_allOnes]
    exact decide_eq_true hj
  rw [Int64.toBitVec_and, BitVec.getLsbD_and, h j hj, Int64.toBitVec_xor, BitVec.getLsbD_xor, shl_b _ hi, BitVec.getLsbD_shiftLeft, e3 j hj]
  show _ = (if j / 8 = i then 0 else k (j / 8)).testBit (j % 8)
  by_cases c : j / 8 = i
  · rw [if_pos c, Nat.zero_testBit, e2 _ (by omega)]
    have e1 : ¬ j < 8 * i := by omega
    have e4 : j - 8 * i < 8 := by omega
    simp [hj, e1, e4]
  · rw [if_neg c]
    by_cases c2 : j < 8 * i
    · simp [c2]
    · rw [e2 _ (by omega)]
      have e4 : ¬ j - 8 * i < 8 := by omega
      simp [e4]
theorem zk_cg {x k k'} (h : PKr x k) (he : ∀ i, i < 8 → k i = k' i) : PKr x k' := fun j hj => by rw [h j hj, he (j / 8) (by omega)]
theorem lg0 {x y : Int64} : lg_cmp x y = 0 ↔ x = y := by
  unfold lg_cmp
  by_cases c : x > y
  · rw [if_pos c]
    constructor
    · intro h; exact absurd h (by decide)
    · intro e; subst e; exact absurd c Int64.lt_irrefl
  · rw [if_neg c]
    by_cases e : x = y
    · rw [if_pos e]; exact ⟨fun _ => e, fun _ => rfl⟩
    · rw [if_neg e]
      exact ⟨fun h => absurd h (by decide), fun h => absurd h e⟩
