/-! ===== a row an instruction, in a frame of the law ===== -/
section ROWF
variable {am : eAm} {i d kc ks pc pc' : Nat} {lv lv' : eL} {r : List Value} {M : eM} {Q : eQ}
theorem f_iconst {n : Int} {y : Int32} (hq : e_dec i pc = some (.iconst n, 1, 0, 0, 0)) (hv : Int32.ofInt n = y) (hp : pc + 1 = pc') (h : e_F am i d kc ks pc' lv (.int y :: r) M Q) : e_F am i d kc ks pc lv r M Q := by subst hp; subst hv; exact e_stF hq rfl h
theorem f_bipush {n : Int} {y : Int32} (hq : e_dec i pc = some (.bipush n, 2, 0, 0, 0)) (hv : (Int8.ofInt n).toInt32 = y) (hp : pc + 2 = pc') (h : e_F am i d kc ks pc' lv (.int y :: r) M Q) : e_F am i d kc ks pc lv r M Q := by subst hp; subst hv; exact e_stF hq rfl h
theorem f_sipush {n : Int} {y : Int32} (hq : e_dec i pc = some (.sipush n, 3, 0, 0, 0)) (hv : (Int16.ofInt n).toInt32 = y) (hp : pc + 3 = pc') (h : e_F am i d kc ks pc' lv (.int y :: r) M Q) : e_F am i d kc ks pc lv r M Q := by subst hp; subst hv; exact e_stF hq rfl h
theorem f_lconst {n : Fin 2} {y : Int64} (hq : e_dec i pc = some (.lconst n, 1, 0, 0, 0)) (hv : Int64.ofNat (n : Nat) = y) (hp : pc + 1 = pc') (h : e_F am i d kc ks pc' lv (.long y :: r) M Q) : e_F am i d kc ks pc lv r M Q := by subst hp; subst hv; exact e_stF hq rfl h
theorem f_ldc {x : Nat} {z : Int} {y : Int32} (hq : e_dec i pc = some (.ldc x, 2, 0, 0, z)) (hv : Int32.ofInt z = y) (hp : pc + 2 = pc') (h : e_F am i d kc ks pc' lv (.int y :: r) M Q) : e_F am i d kc ks pc lv r M Q := by subst hp; subst hv; exact e_stF hq rfl ⟨rfl, h⟩
theorem f_ldc_w {x : Nat} {z : Int} {y : Int32} (hq : e_dec i pc = some (.ldc_w x, 3, 0, 0, z)) (hv : Int32.ofInt z = y) (hp : pc + 3 = pc') (h : e_F am i d kc ks pc' lv (.int y :: r) M Q) : e_F am i d kc ks pc lv r M Q := by subst hp; subst hv; exact e_stF hq rfl ⟨rfl, h⟩
theorem f_ldc2_w {x : Nat} {z : Int} {y : Int64} (hq : e_dec i pc = some (.ldc2_w x, 3, 0, 0, z)) (hv : Int64.ofInt z = y) (hp : pc + 3 = pc') (h : e_F am i d kc ks pc' lv (.long y :: r) M Q) : e_F am i d kc ks pc lv r M Q := by subst hp; subst hv; exact e_stF hq rfl h
theorem f_aconst_null (hq : e_dec i pc = some (.aconst_null, 1, 0, 0, 0)) (hp : pc + 1 = pc') (h : e_F am i d kc ks pc' lv (.ref 0 :: r) M Q) : e_F am i d kc ks pc lv r M Q := by subst hp; exact e_stF hq rfl h
theorem f_iload_n {j : Fin 4} {x : Int32} (hq : e_dec i pc = some (.iload_n j, 1, 0, 0, 0)) (hl : lv.lookup (j : Nat) = some (.int x)) (hp : pc + 1 = pc') (h : e_F am i d kc ks pc' lv (.int x :: r) M Q) : e_F am i d kc ks pc lv r M Q := by
  subst hp
  refine e_stF hq rfl ?_
  show e_lk _ _ _
  unfold e_lk
  rw [hl]
  exact ⟨rfl, h⟩
theorem f_iload {j : Nat} {x : Int32} (hq : e_dec i pc = some (.iload j, 2, 0, 0, 0)) (hl : lv.lookup (j : Nat) = some (.int x)) (hp : pc + 2 = pc') (h : e_F am i d kc ks pc' lv (.int x :: r) M Q) : e_F am i d kc ks pc lv r M Q := by
  subst hp
  refine e_stF hq rfl ?_
  show e_lk _ _ _
  unfold e_lk
  rw [hl]
  exact ⟨rfl, h⟩
theorem f_lload_n {j : Fin 4} {x : Int64} (hq : e_dec i pc = some (.lload_n j, 1, 0, 0, 0)) (hl : lv.lookup (j : Nat) = some (.long x)) (hp : pc + 1 = pc') (h : e_F am i d kc ks pc' lv (.long x :: r) M Q) : e_F am i d kc ks pc lv r M Q := by
  subst hp
  refine e_stF hq rfl ?_
  show e_lk _ _ _
  unfold e_lk
  rw [hl]
  exact ⟨rfl, h⟩
theorem f_lload {j : Nat} {x : Int64} (hq : e_dec i pc = some (.lload j, 2, 0, 0, 0)) (hl : lv.lookup (j : Nat) = some (.long x)) (hp : pc + 2 = pc') (h : e_F am i d kc ks pc' lv (.long x :: r) M Q) : e_F am i d kc ks pc lv r M Q := by
  subst hp
  refine e_stF hq rfl ?_
  show e_lk _ _ _
  unfold e_lk
  rw [hl]
  exact ⟨rfl, h⟩
theorem f_aload_n {j : Fin 4} {x : Nat} (hq : e_dec i pc = some (.aload_n j, 1, 0, 0, 0)) (hl : lv.lookup (j : Nat) = some (.ref x)) (hp : pc + 1 = pc') (h : e_F am i d kc ks pc' lv (.ref x :: r) M Q) : e_F am i d kc ks pc lv r M Q := by
  subst hp
  refine e_stF hq rfl ?_
  show e_lk _ _ _
  unfold e_lk
  rw [hl]
  exact ⟨rfl, h⟩
theorem f_aload {j : Nat} {x : Nat} (hq : e_dec i pc = some (.aload j, 2, 0, 0, 0)) (hl : lv.lookup (j : Nat) = some (.ref x)) (hp : pc + 2 = pc') (h : e_F am i d kc ks pc' lv (.ref x :: r) M Q) : e_F am i d kc ks pc lv r M Q := by
  subst hp
  refine e_stF hq rfl ?_
  show e_lk _ _ _
  unfold e_lk
  rw [hl]
  exact ⟨rfl, h⟩
theorem f_istore_n {j : Fin 4} {x : Int32} {nL : Nat} (hq : e_dec i pc = some (.istore_n j, 1, 0, 0, 0)) (hL : (e_m i).2.2.1 = nL) (hj : (j : Nat) < nL) (hl : e_s1 lv j (.int x) = lv') (hp : pc + 1 = pc') (h : e_F am i d kc ks pc' lv' r M Q) : e_F am i d kc ks pc lv (.int x :: r) M Q := by subst hp; subst hl; subst hL; exact e_stF hq rfl ⟨hj, h⟩
theorem f_istore {j : Nat} {x : Int32} {nL : Nat} (hq : e_dec i pc = some (.istore j, 2, 0, 0, 0)) (hL : (e_m i).2.2.1 = nL) (hj : (j : Nat) < nL) (hl : e_s1 lv j (.int x) = lv') (hp : pc + 2 = pc') (h : e_F am i d kc ks pc' lv' r M Q) : e_F am i d kc ks pc lv (.int x :: r) M Q := by subst hp; subst hl; subst hL; exact e_stF hq rfl ⟨hj, h⟩
theorem f_lstore_n {j : Fin 4} {x : Int64} {nL : Nat} (hq : e_dec i pc = some (.lstore_n j, 1, 0, 0, 0)) (hL : (e_m i).2.2.1 = nL) (hj : (j : Nat) + 1 < nL) (hl : e_s2 lv j (.long x) = lv') (hp : pc + 1 = pc') (h : e_F am i d kc ks pc' lv' r M Q) : e_F am i d kc ks pc lv (.long x :: r) M Q := by subst hp; subst hl; subst hL; exact e_stF hq rfl ⟨hj, h⟩
theorem f_lstore {j : Nat} {x : Int64} {nL : Nat} (hq : e_dec i pc = some (.lstore j, 2, 0, 0, 0)) (hL : (e_m i).2.2.1 = nL) (hj : (j : Nat) + 1 < nL) (hl : e_s2 lv j (.long x) = lv') (hp : pc + 2 = pc') (h : e_F am i d kc ks pc' lv' r M Q) : e_F am i d kc ks pc lv (.long x :: r) M Q := by subst hp; subst hl; subst hL; exact e_stF hq rfl ⟨hj, h⟩
theorem f_astore_n {j : Fin 4} {x : Nat} {nL : Nat} (hq : e_dec i pc = some (.astore_n j, 1, 0, 0, 0)) (hL : (e_m i).2.2.1 = nL) (hj : (j : Nat) < nL) (hl : e_s1 lv j (.ref x) = lv') (hp : pc + 1 = pc') (h : e_F am i d kc ks pc' lv' r M Q) : e_F am i d kc ks pc lv (.ref x :: r) M Q := by subst hp; subst hl; subst hL; exact e_stF hq rfl ⟨hj, h⟩
theorem f_astore {j : Nat} {x : Nat} {nL : Nat} (hq : e_dec i pc = some (.astore j, 2, 0, 0, 0)) (hL : (e_m i).2.2.1 = nL) (hj : (j : Nat) < nL) (hl : e_s1 lv j (.ref x) = lv') (hp : pc + 2 = pc') (h : e_F am i d kc ks pc' lv' r M Q) : e_F am i d kc ks pc lv (.ref x :: r) M Q := by subst hp; subst hl; subst hL; exact e_stF hq rfl ⟨hj, h⟩
theorem f_iinc {j nL : Nat} {n : Int} {x y : Int32} (hq : e_dec i pc = some (.iinc j n, 3, 0, 0, 0)) (hl : lv.lookup j = some (.int x)) (hv : Int32.ofInt n = y) (hL : (e_m i).2.2.1 = nL) (hj : j < nL) (hw : e_s1 lv j (.int (x + y)) = lv') (hp : pc + 3 = pc') (h : e_F am i d kc ks pc' lv' r M Q) : e_F am i d kc ks pc lv r M Q := by
  subst hp; subst hw; subst hv; subst hL
  refine e_stF hq rfl ?_
  show e_lk _ _ _
  unfold e_lk
  rw [hl]
  exact ⟨hj, h⟩
theorem f_iadd {x y : Int32} (hq : e_dec i pc = some (.iadd, 1, 0, 0, 0)) (hp : pc + 1 = pc') (h : e_F am i d kc ks pc' lv (.int (x + y) :: r) M Q) : e_F am i d kc ks pc lv (.int y :: .int x :: r) M Q := by subst hp; exact e_stF hq rfl h
theorem f_isub {x y : Int32} (hq : e_dec i pc = some (.isub, 1, 0, 0, 0)) (hp : pc + 1 = pc') (h : e_F am i d kc ks pc' lv (.int (x - y) :: r) M Q) : e_F am i d kc ks pc lv (.int y :: .int x :: r) M Q := by subst hp; exact e_stF hq rfl h
theorem f_imul {x y : Int32} (hq : e_dec i pc = some (.imul, 1, 0, 0, 0)) (hp : pc + 1 = pc') (h : e_F am i d kc ks pc' lv (.int (x * y) :: r) M Q) : e_F am i d kc ks pc lv (.int y :: .int x :: r) M Q := by subst hp; exact e_stF hq rfl h
theorem f_iand {x y : Int32} (hq : e_dec i pc = some (.iand, 1, 0, 0, 0)) (hp : pc + 1 = pc') (h : e_F am i d kc ks pc' lv (.int (x &&& y) :: r) M Q) : e_F am i d kc ks pc lv (.int y :: .int x :: r) M Q := by subst hp; exact e_stF hq rfl h
theorem f_ior {x y : Int32} (hq : e_dec i pc = some (.ior, 1, 0, 0, 0)) (hp : pc + 1 = pc') (h : e_F am i d kc ks pc' lv (.int (x ||| y) :: r) M Q) : e_F am i d kc ks pc lv (.int y :: .int x :: r) M Q := by subst hp; exact e_stF hq rfl h
theorem f_ixor {x y : Int32} (hq : e_dec i pc = some (.ixor, 1, 0, 0, 0)) (hp : pc + 1 = pc') (h : e_F am i d kc ks pc' lv (.int (x ^^^ y) :: r) M Q) : e_F am i d kc ks pc lv (.int y :: .int x :: r) M Q := by subst hp; exact e_stF hq rfl h
theorem f_ishl {x y : Int32} (hq : e_dec i pc = some (.ishl, 1, 0, 0, 0)) (hp : pc + 1 = pc') (h : e_F am i d kc ks pc' lv (.int (x <<< (y &&& 31)) :: r) M Q) : e_F am i d kc ks pc lv (.int y :: .int x :: r) M Q := by subst hp; exact e_stF hq rfl h
theorem f_ishr {x y : Int32} (hq : e_dec i pc = some (.ishr, 1, 0, 0, 0)) (hp : pc + 1 = pc') (h : e_F am i d kc ks pc' lv (.int (x >>> (y &&& 31)) :: r) M Q) : e_F am i d kc ks pc lv (.int y :: .int x :: r) M Q := by subst hp; exact e_stF hq rfl h
theorem f_iushr {x y : Int32} (hq : e_dec i pc = some (.iushr, 1, 0, 0, 0)) (hp : pc + 1 = pc') (h : e_F am i d kc ks pc' lv (.int ((x.toUInt32 >>> (y.toUInt32 &&& Int32.toUInt32 31)).toInt32) :: r) M Q) : e_F am i d kc ks pc lv (.int y :: .int x :: r) M Q := by subst hp; exact e_stF hq rfl h
theorem f_idiv {x y : Int32} (hq : e_dec i pc = some (.idiv, 1, 0, 0, 0)) (h0 : ¬ y = 0) (hp : pc + 1 = pc') (h : e_F am i d kc ks pc' lv (.int (x / y) :: r) M Q) : e_F am i d kc ks pc lv (.int y :: .int x :: r) M Q := by subst hp; exact e_stF hq rfl ⟨h0, h⟩
theorem f_irem {x y : Int32} (hq : e_dec i pc = some (.irem, 1, 0, 0, 0)) (h0 : ¬ y = 0) (hp : pc + 1 = pc') (h : e_F am i d kc ks pc' lv (.int (x - x / y * y) :: r) M Q) : e_F am i d kc ks pc lv (.int y :: .int x :: r) M Q := by subst hp; exact e_stF hq rfl ⟨h0, h⟩
theorem f_ineg {x : Int32} (hq : e_dec i pc = some (.ineg, 1, 0, 0, 0)) (hp : pc + 1 = pc') (h : e_F am i d kc ks pc' lv (.int (-x) :: r) M Q) : e_F am i d kc ks pc lv (.int x :: r) M Q := by subst hp; exact e_stF hq rfl h
theorem f_ladd {x y : Int64} (hq : e_dec i pc = some (.ladd, 1, 0, 0, 0)) (hp : pc + 1 = pc') (h : e_F am i d kc ks pc' lv (.long (x + y) :: r) M Q) : e_F am i d kc ks pc lv (.long y :: .long x :: r) M Q := by subst hp; exact e_stF hq rfl h
theorem f_land {x y : Int64} (hq : e_dec i pc = some (.land, 1, 0, 0, 0)) (hp : pc + 1 = pc') (h : e_F am i d kc ks pc' lv (.long (x &&& y) :: r) M Q) : e_F am i d kc ks pc lv (.long y :: .long x :: r) M Q := by subst hp; exact e_stF hq rfl h
theorem f_lor {x y : Int64} (hq : e_dec i pc = some (.lor, 1, 0, 0, 0)) (hp : pc + 1 = pc') (h : e_F am i d kc ks pc' lv (.long (x ||| y) :: r) M Q) : e_F am i d kc ks pc lv (.long y :: .long x :: r) M Q := by subst hp; exact e_stF hq rfl h
theorem f_lxor {x y : Int64} (hq : e_dec i pc = some (.lxor, 1, 0, 0, 0)) (hp : pc + 1 = pc') (h : e_F am i d kc ks pc' lv (.long (x ^^^ y) :: r) M Q) : e_F am i d kc ks pc lv (.long y :: .long x :: r) M Q := by subst hp; exact e_stF hq rfl h
theorem f_lcmp {x y : Int64} (hq : e_dec i pc = some (.lcmp, 1, 0, 0, 0)) (hp : pc + 1 = pc') (h : e_F am i d kc ks pc' lv (.int (lg_cmp x y) :: r) M Q) : e_F am i d kc ks pc lv (.long y :: .long x :: r) M Q := by subst hp; exact e_stF hq rfl h
theorem f_lshl {x : Int64} {y : Int32} (hq : e_dec i pc = some (.lshl, 1, 0, 0, 0)) (hp : pc + 1 = pc') (h : e_F am i d kc ks pc' lv (.long (x <<< (y.toInt64 &&& 63)) :: r) M Q) : e_F am i d kc ks pc lv (.int y :: .long x :: r) M Q := by subst hp; exact e_stF hq rfl h
theorem f_lshr {x : Int64} {y : Int32} (hq : e_dec i pc = some (.lshr, 1, 0, 0, 0)) (hp : pc + 1 = pc') (h : e_F am i d kc ks pc' lv (.long (x >>> (y.toInt64 &&& 63)) :: r) M Q) : e_F am i d kc ks pc lv (.int y :: .long x :: r) M Q := by subst hp; exact e_stF hq rfl h
theorem f_lushr {x : Int64} {y : Int32} (hq : e_dec i pc = some (.lushr, 1, 0, 0, 0)) (hp : pc + 1 = pc') (h : e_F am i d kc ks pc' lv (.long ((x.toUInt64 >>> (y.toInt64.toUInt64 &&& Int64.toUInt64 63)).toInt64) :: r) M Q) : e_F am i d kc ks pc lv (.int y :: .long x :: r) M Q := by subst hp; exact e_stF hq rfl h
theorem f_i2l {x : Int32} (hq : e_dec i pc = some (.i2l, 1, 0, 0, 0)) (hp : pc + 1 = pc') (h : e_F am i d kc ks pc' lv (.long x.toInt64 :: r) M Q) : e_F am i d kc ks pc lv (.int x :: r) M Q := by subst hp; exact e_stF hq rfl h
theorem f_l2i {x : Int64} (hq : e_dec i pc = some (.l2i, 1, 0, 0, 0)) (hp : pc + 1 = pc') (h : e_F am i d kc ks pc' lv (.int x.toInt32 :: r) M Q) : e_F am i d kc ks pc lv (.long x :: r) M Q := by subst hp; exact e_stF hq rfl h
theorem f_i2b {x : Int32} (hq : e_dec i pc = some (.i2b, 1, 0, 0, 0)) (hp : pc + 1 = pc') (h : e_F am i d kc ks pc' lv (.int x.toInt8.toInt32 :: r) M Q) : e_F am i d kc ks pc lv (.int x :: r) M Q := by subst hp; exact e_stF hq rfl h
theorem f_i2s {x : Int32} (hq : e_dec i pc = some (.i2s, 1, 0, 0, 0)) (hp : pc + 1 = pc') (h : e_F am i d kc ks pc' lv (.int x.toInt16.toInt32 :: r) M Q) : e_F am i d kc ks pc lv (.int x :: r) M Q := by subst hp; exact e_stF hq rfl h
theorem f_dup {v : Value} (hq : e_dec i pc = some (.dup, 1, 0, 0, 0)) (hc : v.category = 1) (hp : pc + 1 = pc') (h : e_F am i d kc ks pc' lv (v :: v :: r) M Q) : e_F am i d kc ks pc lv (v :: r) M Q := by subst hp; exact e_stF hq rfl ⟨hc, h⟩
theorem f_dup2 {v u : Value} (hq : e_dec i pc = some (.dup2, 1, 0, 0, 0)) (hc : v.category = 1) (hu : u.category = 1) (hp : pc + 1 = pc') (h : e_F am i d kc ks pc' lv (v :: u :: v :: u :: r) M Q) : e_F am i d kc ks pc lv (v :: u :: r) M Q := by subst hp; exact e_stF hq rfl ⟨hc, hu, h⟩
theorem f_pop {v : Value} (hq : e_dec i pc = some (.pop, 1, 0, 0, 0)) (hc : v.category = 1) (hp : pc + 1 = pc') (h : e_F am i d kc ks pc' lv r M Q) : e_F am i d kc ks pc lv (v :: r) M Q := by subst hp; exact e_stF hq rfl ⟨hc, h⟩
theorem f_goto {o : Int} (hq : e_dec i pc = some (.goto o, 3, pc', 0, 0)) (h : e_F am i d kc ks pc' lv r M Q) : e_F am i d kc ks pc lv r M Q := e_stF hq rfl h
theorem f_if_eq {o : Int} {t : Nat} {x : Int32} (hq : e_dec i pc = some (.ifCond .eq o, 3, t, 0, 0)) (hp : pc + 3 = pc') (h1 : x = 0 → e_F am i d kc ks t lv r M Q) (h2 : ¬ x = 0 → e_F am i d kc ks pc' lv r M Q) : e_F am i d kc ks pc lv (.int x :: r) M Q := by subst hp; exact e_stF hq rfl ⟨h1, h2⟩
theorem f_if_ne {o : Int} {t : Nat} {x : Int32} (hq : e_dec i pc = some (.ifCond .ne o, 3, t, 0, 0)) (hp : pc + 3 = pc') (h1 : ¬ x = 0 → e_F am i d kc ks t lv r M Q) (h2 : x = 0 → e_F am i d kc ks pc' lv r M Q) : e_F am i d kc ks pc lv (.int x :: r) M Q := by subst hp; exact e_stF hq rfl ⟨h1, h2⟩
theorem f_if_lt {o : Int} {t : Nat} {x : Int32} (hq : e_dec i pc = some (.ifCond .lt o, 3, t, 0, 0)) (hp : pc + 3 = pc') (h1 : x < 0 → e_F am i d kc ks t lv r M Q) (h2 : ¬ x < 0 → e_F am i d kc ks pc' lv r M Q) : e_F am i d kc ks pc lv (.int x :: r) M Q := by subst hp; exact e_stF hq rfl ⟨h1, h2⟩
theorem f_if_ge {o : Int} {t : Nat} {x : Int32} (hq : e_dec i pc = some (.ifCond .ge o, 3, t, 0, 0)) (hp : pc + 3 = pc') (h1 : 0 ≤ x → e_F am i d kc ks t lv r M Q) (h2 : ¬ 0 ≤ x → e_F am i d kc ks pc' lv r M Q) : e_F am i d kc ks pc lv (.int x :: r) M Q := by subst hp; exact e_stF hq rfl ⟨h1, h2⟩
theorem f_if_gt {o : Int} {t : Nat} {x : Int32} (hq : e_dec i pc = some (.ifCond .gt o, 3, t, 0, 0)) (hp : pc + 3 = pc') (h1 : 0 < x → e_F am i d kc ks t lv r M Q) (h2 : ¬ 0 < x → e_F am i d kc ks pc' lv r M Q) : e_F am i d kc ks pc lv (.int x :: r) M Q := by subst hp; exact e_stF hq rfl ⟨h1, h2⟩
theorem f_if_le {o : Int} {t : Nat} {x : Int32} (hq : e_dec i pc = some (.ifCond .le o, 3, t, 0, 0)) (hp : pc + 3 = pc') (h1 : x ≤ 0 → e_F am i d kc ks t lv r M Q) (h2 : ¬ x ≤ 0 → e_F am i d kc ks pc' lv r M Q) : e_F am i d kc ks pc lv (.int x :: r) M Q := by subst hp; exact e_stF hq rfl ⟨h1, h2⟩
theorem f_icmp_eq {o : Int} {t : Nat} {x y : Int32} (hq : e_dec i pc = some (.if_icmp .eq o, 3, t, 0, 0)) (hp : pc + 3 = pc') (h1 : x = y → e_F am i d kc ks t lv r M Q) (h2 : ¬ x = y → e_F am i d kc ks pc' lv r M Q) : e_F am i d kc ks pc lv (.int y :: .int x :: r) M Q := by subst hp; exact e_stF hq rfl ⟨h1, h2⟩
theorem f_icmp_ne {o : Int} {t : Nat} {x y : Int32} (hq : e_dec i pc = some (.if_icmp .ne o, 3, t, 0, 0)) (hp : pc + 3 = pc') (h1 : ¬ x = y → e_F am i d kc ks t lv r M Q) (h2 : x = y → e_F am i d kc ks pc' lv r M Q) : e_F am i d kc ks pc lv (.int y :: .int x :: r) M Q := by subst hp; exact e_stF hq rfl ⟨h1, h2⟩
theorem f_icmp_lt {o : Int} {t : Nat} {x y : Int32} (hq : e_dec i pc = some (.if_icmp .lt o, 3, t, 0, 0)) (hp : pc + 3 = pc') (h1 : x < y → e_F am i d kc ks t lv r M Q) (h2 : ¬ x < y → e_F am i d kc ks pc' lv r M Q) : e_F am i d kc ks pc lv (.int y :: .int x :: r) M Q := by subst hp; exact e_stF hq rfl ⟨h1, h2⟩
theorem f_icmp_ge {o : Int} {t : Nat} {x y : Int32} (hq : e_dec i pc = some (.if_icmp .ge o, 3, t, 0, 0)) (hp : pc + 3 = pc') (h1 : y ≤ x → e_F am i d kc ks t lv r M Q) (h2 : ¬ y ≤ x → e_F am i d kc ks pc' lv r M Q) : e_F am i d kc ks pc lv (.int y :: .int x :: r) M Q := by subst hp; exact e_stF hq rfl ⟨h1, h2⟩
theorem f_icmp_gt {o : Int} {t : Nat} {x y : Int32} (hq : e_dec i pc = some (.if_icmp .gt o, 3, t, 0, 0)) (hp : pc + 3 = pc') (h1 : y < x → e_F am i d kc ks t lv r M Q) (h2 : ¬ y < x → e_F am i d kc ks pc' lv r M Q) : e_F am i d kc ks pc lv (.int y :: .int x :: r) M Q := by subst hp; exact e_stF hq rfl ⟨h1, h2⟩
theorem f_icmp_le {o : Int} {t : Nat} {x y : Int32} (hq : e_dec i pc = some (.if_icmp .le o, 3, t, 0, 0)) (hp : pc + 3 = pc') (h1 : x ≤ y → e_F am i d kc ks t lv r M Q) (h2 : ¬ x ≤ y → e_F am i d kc ks pc' lv r M Q) : e_F am i d kc ks pc lv (.int y :: .int x :: r) M Q := by subst hp; exact e_stF hq rfl ⟨h1, h2⟩
theorem f_ifnull {o : Int} {t : Nat} {x : Nat} (hq : e_dec i pc = some (.ifnull o, 3, t, 0, 0)) (hp : pc + 3 = pc') (h1 : x = 0 → e_F am i d kc ks t lv r M Q) (h2 : ¬ x = 0 → e_F am i d kc ks pc' lv r M Q) : e_F am i d kc ks pc lv (.ref x :: r) M Q := by subst hp; exact e_stF hq rfl ⟨h1, h2⟩
theorem f_ifnonnull {o : Int} {t : Nat} {x : Nat} (hq : e_dec i pc = some (.ifnonnull o, 3, t, 0, 0)) (hp : pc + 3 = pc') (h1 : ¬ x = 0 → e_F am i d kc ks t lv r M Q) (h2 : x = 0 → e_F am i d kc ks pc' lv r M Q) : e_F am i d kc ks pc lv (.ref x :: r) M Q := by subst hp; exact e_stF hq rfl ⟨h1, h2⟩
theorem f_lookupswitch {dd : Int} {ps : Array (Int × Int)} {len u : Nat} {qs : List (Int × Nat)} {x : Int32} (hq : e_dec i pc = some (.lookupswitch dd ps, len, 0, 0, 0)) (hu : e_tgt pc dd = u) (hps : ps.toList.map (fun q => (q.1, e_tgt pc q.2)) = qs) (hok : e_swok qs = true) (h : e_sw x (fun t => e_F am i d kc ks t lv r M Q) qs u) : e_F am i d kc ks pc lv (.int x :: r) M Q := e_stF hq rfl (e_swl (k := fun t => e_F am i d kc ks t lv r M Q) hu hps hok h)
theorem f_tableswitch {dd lo hi : Int} {offs : Array Int} {len u : Nat} {qs : List (Int × Nat)} {x : Int32} (hq : e_dec i pc = some (.tableswitch dd lo hi offs, len, 0, 0, 0)) (hu : e_tgt pc dd = u) (hh : hi + 1 = lo + offs.toList.length) (hps : (offs.toList.zipIdx.map (fun q => (lo + (q.2 : Int), e_tgt pc q.1))) = qs) (hok : e_swok qs = true) (h : e_sw x (fun t => e_F am i d kc ks t lv r M Q) qs u) : e_F am i d kc ks pc lv (.int x :: r) M Q := by
  have := e_swt (k := fun t => e_F am i d kc ks t lv r M Q) (dd := dd) hps hok h
  subst hu
  refine e_stF hq rfl ⟨fun z => this.1 (by omega), fun z1 z2 => ?_⟩
  obtain ⟨o, g1, g2⟩ := this.2 z1 (by omega)
  exact ⟨o, by rw [← Array.getElem?_toList]; exact g1, g2⟩
theorem f_get0 {x a b o : Nat} (hq : e_dec i pc = some (.getfield x, 3, a, b, 0)) (ha : a < 20) (hk : (e_fk a).getD b 0 = 0) (g : e_ob M o a) (hp : pc + 3 = pc') (h : e_F am i d kc ks pc' lv (.int (gi M o b) :: r) M Q) : e_F am i d kc ks pc lv (.ref o :: r) M Q := by
  subst hp
  refine e_stF hq rfl ⟨ha, g, ?_⟩
  show e_F am i d kc ks (pc + 3) lv (e_gv M o b ((e_fk a).getD b 0) :: r) M Q
  rw [hk]
  exact h
theorem f_get3 {x a b o : Nat} (hq : e_dec i pc = some (.getfield x, 3, a, b, 0)) (ha : a < 20) (hk : (e_fk a).getD b 0 = 3) (g : e_ob M o a) (hp : pc + 3 = pc') (h : e_F am i d kc ks pc' lv (.int (gi M o b) :: r) M Q) : e_F am i d kc ks pc lv (.ref o :: r) M Q := by
  subst hp
  refine e_stF hq rfl ⟨ha, g, ?_⟩
  show e_F am i d kc ks (pc + 3) lv (e_gv M o b ((e_fk a).getD b 0) :: r) M Q
  rw [hk]
  exact h
theorem f_get1 {x a b o : Nat} (hq : e_dec i pc = some (.getfield x, 3, a, b, 0)) (ha : a < 20) (hk : (e_fk a).getD b 0 = 1) (g : e_ob M o a) (hp : pc + 3 = pc') (h : e_F am i d kc ks pc' lv (.long (gl M o b) :: r) M Q) : e_F am i d kc ks pc lv (.ref o :: r) M Q := by
  subst hp
  refine e_stF hq rfl ⟨ha, g, ?_⟩
  show e_F am i d kc ks (pc + 3) lv (e_gv M o b ((e_fk a).getD b 0) :: r) M Q
  rw [hk]
  exact h
theorem f_get2 {x a b o : Nat} (hq : e_dec i pc = some (.getfield x, 3, a, b, 0)) (ha : a < 20) (hk : (e_fk a).getD b 0 = 2) (g : e_ob M o a) (hp : pc + 3 = pc') (h : e_F am i d kc ks pc' lv (.ref (gr M o b) :: r) M Q) : e_F am i d kc ks pc lv (.ref o :: r) M Q := by
  subst hp
  refine e_stF hq rfl ⟨ha, g, ?_⟩
  show e_F am i d kc ks (pc + 3) lv (e_gv M o b ((e_fk a).getD b 0) :: r) M Q
  rw [hk]
  exact h
theorem f_put0 {x a b o : Nat} {y : Int32} (hq : e_dec i pc = some (.putfield x, 3, a, b, 0)) (ha : a < 20) (hk : (e_fk a).getD b 0 = 0) (g : e_ob M o a) (hp : pc + 3 = pc') (h : e_F am i d kc ks pc' lv r (e_si M o b y) Q) : e_F am i d kc ks pc lv (.int y :: .ref o :: r) M Q := by
  subst hp
  refine e_stF hq rfl ⟨ha, ?_⟩
  show e_put _ kc ks (pc + 3) a b lv _ M
  unfold e_put
  rw [hk]
  rw [if_neg (by decide), if_neg (by decide)]
  exact ⟨g, fun z => absurd z (by decide), h⟩
theorem f_put3 {x a b o : Nat} {y : Int32} (hq : e_dec i pc = some (.putfield x, 3, a, b, 0)) (ha : a < 20) (hk : (e_fk a).getD b 0 = 3) (g : e_ob M o a) (gb : y = 0 ∨ y = 1) (hp : pc + 3 = pc') (h : e_F am i d kc ks pc' lv r (e_si M o b y) Q) : e_F am i d kc ks pc lv (.int y :: .ref o :: r) M Q := by
  subst hp
  refine e_stF hq rfl ⟨ha, ?_⟩
  show e_put _ kc ks (pc + 3) a b lv _ M
  unfold e_put
  rw [hk]
  rw [if_neg (by decide), if_neg (by decide)]
  exact ⟨g, fun _ => gb, h⟩
theorem f_put1 {x a b o : Nat} {y : Int64} (hq : e_dec i pc = some (.putfield x, 3, a, b, 0)) (ha : a < 20) (hk : (e_fk a).getD b 0 = 1) (g : e_ob M o a) (hp : pc + 3 = pc') (h : e_F am i d kc ks pc' lv r (e_sl M o b y) Q) : e_F am i d kc ks pc lv (.long y :: .ref o :: r) M Q := by
  subst hp
  refine e_stF hq rfl ⟨ha, ?_⟩
  show e_put _ kc ks (pc + 3) a b lv _ M
  unfold e_put
  rw [hk]
  rw [if_pos rfl]
  exact ⟨g, h⟩
theorem f_put2 {x a b o : Nat} {y : Nat} (hq : e_dec i pc = some (.putfield x, 3, a, b, 0)) (ha : a < 20) (hk : (e_fk a).getD b 0 = 2) (g : e_ob M o a) (hp : pc + 3 = pc') (h : e_F am i d kc ks pc' lv r (e_sr M o b y) Q) : e_F am i d kc ks pc lv (.ref y :: .ref o :: r) M Q := by
  subst hp
  refine e_stF hq rfl ⟨ha, ?_⟩
  show e_put _ kc ks (pc + 3) a b lv _ M
  unfold e_put
  rw [hk]
  rw [if_neg (by decide), if_pos rfl]
  exact ⟨g, h⟩
theorem f_getstatic {x a b : Nat} (hq : e_dec i pc = some (.getstatic x, 3, a, b, 0)) (ha : a = 2 ∨ a = 3 ∨ a = 4) (hp : pc + 3 = pc') (h : e_F am i d kc ks pc' lv (.ref a :: r) M Q) : e_F am i d kc ks pc lv r M Q := by subst hp; exact e_stF hq rfl ⟨ha, h⟩
theorem f_iaload {a : Nat} {y : Int32} (hq : e_dec i pc = some (.iaload, 1, 0, 0, 0)) (g : e_ai M a y) (hp : pc + 1 = pc') (h : e_F am i d kc ks pc' lv (.int (gi M a y.toNatClampNeg) :: r) M Q) : e_F am i d kc ks pc lv (.int y :: .ref a :: r) M Q := by subst hp; exact e_stF hq rfl ⟨g, h⟩
theorem f_baload {a : Nat} {y : Int32} (hq : e_dec i pc = some (.baload, 1, 0, 0, 0)) (g : e_ar M a 22 y) (hp : pc + 1 = pc') (h : e_F am i d kc ks pc' lv (.int (gi M a y.toNatClampNeg) :: r) M Q) : e_F am i d kc ks pc lv (.int y :: .ref a :: r) M Q := by subst hp; exact e_stF hq rfl ⟨g, h⟩
theorem f_laload {a : Nat} {y : Int32} (hq : e_dec i pc = some (.laload, 1, 0, 0, 0)) (g : e_ar M a 21 y) (hp : pc + 1 = pc') (h : e_F am i d kc ks pc' lv (.long (gl M a y.toNatClampNeg) :: r) M Q) : e_F am i d kc ks pc lv (.int y :: .ref a :: r) M Q := by subst hp; exact e_stF hq rfl ⟨g, h⟩
theorem f_aaload {a : Nat} {y : Int32} (hq : e_dec i pc = some (.aaload, 1, 0, 0, 0)) (g : e_ar M a 23 y ∨ e_ar M a 24 y) (hp : pc + 1 = pc') (h : e_F am i d kc ks pc' lv (.ref (gr M a y.toNatClampNeg) :: r) M Q) : e_F am i d kc ks pc lv (.int y :: .ref a :: r) M Q := by subst hp; exact e_stF hq rfl ⟨g, h⟩
theorem f_iastore {a : Nat} {y : Int32} {x : Int32} (hq : e_dec i pc = some (.iastore, 1, 0, 0, 0)) (g : e_ar M a 20 y) (hp : pc + 1 = pc') (h : e_F am i d kc ks pc' lv r (e_si M a y.toNatClampNeg x) Q) : e_F am i d kc ks pc lv (.int x :: .int y :: .ref a :: r) M Q := by subst hp; exact e_stF hq rfl ⟨g, h⟩
theorem f_bastore {a : Nat} {y : Int32} {x : Int32} (hq : e_dec i pc = some (.bastore, 1, 0, 0, 0)) (g : e_ar M a 22 y) (hp : pc + 1 = pc') (h : e_F am i d kc ks pc' lv r (e_si M a y.toNatClampNeg (vp_nar .boolean x)) Q) : e_F am i d kc ks pc lv (.int x :: .int y :: .ref a :: r) M Q := by subst hp; exact e_stF hq rfl ⟨g, h⟩
theorem f_lastore {a : Nat} {y : Int32} {x : Int64} (hq : e_dec i pc = some (.lastore, 1, 0, 0, 0)) (g : e_ar M a 21 y) (hp : pc + 1 = pc') (h : e_F am i d kc ks pc' lv r (e_sl M a y.toNatClampNeg x) Q) : e_F am i d kc ks pc lv (.long x :: .int y :: .ref a :: r) M Q := by subst hp; exact e_stF hq rfl ⟨g, h⟩
theorem f_aastore {a : Nat} {y : Int32} {x : Nat} (hq : e_dec i pc = some (.aastore, 1, 0, 0, 0)) (g : (e_ar M a 23 y ∧ e_ob M x 4) ∨ (e_ar M a 24 y ∧ e_ob M x 8)) (hp : pc + 1 = pc') (h : e_F am i d kc ks pc' lv r (e_sr M a y.toNatClampNeg x) Q) : e_F am i d kc ks pc lv (.ref x :: .int y :: .ref a :: r) M Q := by subst hp; exact e_stF hq rfl ⟨g, h⟩
theorem f_arraylength {a : Nat} (hq : e_dec i pc = some (.arraylength, 1, 0, 0, 0)) (g : (0 < a ∧ a < M.1 ∧ gt M a = 20) ∨ (e_c0 ≤ a ∧ a < M.1 ∧ 20 ≤ gt M a ∧ gt M a ≤ 24)) (hp : pc + 1 = pc') (h : e_F am i d kc ks pc' lv (.int (Int32.ofNat (gn M a)) :: r) M Q) : e_F am i d kc ks pc lv (.ref a :: r) M Q := by subst hp; exact e_stF hq rfl ⟨g, h⟩
theorem f_new {x a n : Nat} (hq : e_dec i pc = some (.new x, 3, a, 0, 0)) (ha : a < 20) (hn : (e_fk a).length = n) (g1 : 1 ≤ kc) (g2 : n ≤ ks) (hp : pc + 3 = pc') (h : e_F am i d (kc - 1) (ks - n) pc' lv (.ref M.1 :: r) (e_new M a 0) Q) : e_F am i d kc ks pc lv r M Q := by
  subst hp; subst hn
  refine e_stF hq rfl ?_
  have h9 : ¬ 91 ≤ a := by omega
  unfold e_ins
  simp only [if_neg h9]
  exact ⟨ha, g1, g2, h⟩
theorem f_newarray {t : ArrayType} {a : Nat} {y : Int32} (hq : e_dec i pc = some (.newarray t, 2, a, 0, 0)) (ha : a = 20 ∨ a = 21 ∨ a = 22) (g0 : ¬ y < 0) (g3 : y.toNatClampNeg ≤ 400000) (g1 : 1 ≤ kc) (g2 : y.toNatClampNeg ≤ ks) (hp : pc + 2 = pc') (h : e_F am i d (kc - 1) (ks - y.toNatClampNeg) pc' lv (.ref M.1 :: r) (e_new M a y.toNatClampNeg) Q) : e_F am i d kc ks pc lv (.int y :: r) M Q := by subst hp; exact e_stF hq rfl ⟨ha, g0, g3, g1, g2, h⟩
theorem f_anewarray {x a : Nat} {y : Int32} (hq : e_dec i pc = some (.anewarray x, 3, a, 0, 0)) (ha : a = 23 ∨ a = 24) (g0 : ¬ y < 0) (g3 : y.toNatClampNeg ≤ 400000) (g1 : 1 ≤ kc) (g2 : y.toNatClampNeg ≤ ks) (hp : pc + 3 = pc') (h : e_F am i d (kc - 1) (ks - y.toNatClampNeg) pc' lv (.ref M.1 :: r) (e_new M a y.toNatClampNeg) Q) : e_F am i d kc ks pc lv (.int y :: r) M Q := by subst hp; exact e_stF hq rfl ⟨ha, g0, g3, g1, g2, h⟩
theorem f_objInit {x b o : Nat} (hq : e_dec i pc = some (.invokespecial x, 3, 900, b, 0)) (g : e_c0 ≤ o) (h8 : (r.map fun v => v.category).sum ≤ 8) (hp : pc + 3 = pc') (h : e_F am i d kc ks pc' lv r M Q) : e_F am i d kc ks pc lv (.ref o :: r) M Q := by subst hp; exact e_stF hq rfl ⟨g, h8, h⟩
theorem f_callV {x b j na o d' mc ms : Nat} {z : Int} {st as : List Value} (hd : d = d' + 1) (hq : e_dec i pc = some (.invokevirtual x, 3, j, b, z)) (hj : j < 79) (hnf : e_nf j = true) (hz : z.toNat = na) (hst : st.take na = as) (hdr : st.drop na = .ref o :: r) (hl : na ≤ st.length) (hlen : (lg_sl (.ref o :: as.reverse)).length ≤ (e_m j).2.2.1) (h8 : (r.map fun v => v.category).sum ≤ 8) (g : e_ob M o b) (g1 : mc ≤ kc) (g2 : ms ≤ ks) (hp : pc + 3 = pc') (h : e_C j d' mc ms (.ref o :: as.reverse) M (fun v M' => e_F am i d (kc - mc) (ks - ms) pc' lv (v.toList ++ r) M' Q)) : e_F am i d kc ks pc lv st M Q := by
  subst hp; subst hz; subst hst
  refine e_stF hq rfl ⟨by show j < 900; omega, hl, ?_⟩
  show e_r1 (st.drop z.toNat) _
  rw [hdr]
  exact ⟨g, h8, mc, ms, g1, g2, d', hd, hj, hnf, hlen, h⟩
theorem f_callI {x b j na o d' mc ms : Nat} {z : Int} {st as : List Value} (hd : d = d' + 1) (hq : e_dec i pc = some (.invokespecial x, 3, j, b, z)) (hj : j < 79) (hnf : e_nf j = true) (hz : z.toNat = na) (hst : st.take na = as) (hdr : st.drop na = .ref o :: r) (hl : na ≤ st.length) (hlen : (lg_sl (.ref o :: as.reverse)).length ≤ (e_m j).2.2.1) (h8 : (r.map fun v => v.category).sum ≤ 8) (g : e_c0 ≤ o) (g1 : mc ≤ kc) (g2 : ms ≤ ks) (hp : pc + 3 = pc') (h : e_C j d' mc ms (.ref o :: as.reverse) M (fun v M' => e_F am i d (kc - mc) (ks - ms) pc' lv (v.toList ++ r) M' Q)) : e_F am i d kc ks pc lv st M Q := by
  subst hp; subst hz; subst hst
  refine e_stF hq rfl ?_
  have h9 : ¬ j = 900 := by omega
  unfold e_ins
  simp only [if_neg h9]
  refine ⟨by omega, hl, ?_⟩
  rw [hdr]
  exact ⟨g, h8, mc, ms, g1, g2, d', hd, hj, hnf, hlen, h⟩
theorem f_return {QV : eM → Prop} (hq : e_dec i pc = some (.return_, 1, 0, 0, 0)) (hr : (e_m i).2.2.2.1 = none) (h : QV M) : e_F am i d kc ks pc lv [] M (e_QV QV) := e_stF hq rfl ⟨rfl, hr, rfl, h⟩
theorem f_ireturn {x : Int32} {QI : Int32 → eM → Prop} (hq : e_dec i pc = some (.ireturn, 1, 0, 0, 0)) (hr : (e_m i).2.2.2.1 = some .int) (h : QI x M) : e_F am i d kc ks pc lv [.int x] M (e_QI QI) := e_stF hq rfl ⟨rfl, Or.inl hr, x, rfl, h⟩
theorem f_zreturn {x : Int32} {QI : Int32 → eM → Prop} (hq : e_dec i pc = some (.ireturn, 1, 0, 0, 0)) (hr : (e_m i).2.2.2.1 = some .boolean) (g : x = 0 ∨ x = 1) (h : QI x M) : e_F am i d kc ks pc lv [.int x] M (e_QI QI) := e_stF hq rfl ⟨rfl, Or.inr ⟨hr, g⟩, x, rfl, h⟩
theorem f_lreturn {x : Int64} {QL : Int64 → eM → Prop} (hq : e_dec i pc = some (.lreturn, 1, 0, 0, 0)) (hr : (e_m i).2.2.2.1 = some .long) (h : QL x M) : e_F am i d kc ks pc lv [.long x] M (e_QL QL) := e_stF hq rfl ⟨rfl, hr, x, rfl, h⟩
theorem f_areturn {x : Nat} {QR : Nat → eM → Prop} {t : FieldType} (hq : e_dec i pc = some (.areturn, 1, 0, 0, 0)) (hr : (e_m i).2.2.2.1 = some t) (ht : (∃ n, t = .object n) ∨ ∃ n, t = .array n) (h : QR x M) : e_F am i d kc ks pc lv [.ref x] M (e_QR QR) := e_stF hq rfl ⟨rfl, by rw [hr]; exact ht.imp (fun ⟨n, e⟩ => ⟨n, by rw [e]⟩) (fun ⟨n, e⟩ => ⟨n, by rw [e]⟩), x, rfl, h⟩

theorem f_callVI {x b j na o d' mc ms nj kc' ks' : Nat} {z : Int} {st as av : List Value} {P : Int32 → eM → Prop} (hd : d = d' + 1) (hq : e_dec i pc = some (.invokevirtual x, 3, j, b, z)) (hj : j < 79) (hnf : e_nf j = true) (hz : z.toNat = na) (hst : st.take na = as) (hdr : st.drop na = .ref o :: r) (hl : na ≤ st.length) (hav : .ref o :: as.reverse = av) (hL : (e_m j).2.2.1 = nj) (hlen : (lg_sl av).length ≤ nj) (h8 : (r.map fun v => v.category).sum ≤ 8) (g : e_ob M o b) (g1 : mc ≤ kc) (g2 : ms ≤ ks) (hk1 : kc - mc = kc') (hk2 : ks - ms = ks') (hp : pc + 3 = pc') (h : e_CI j d' mc ms av M P) (k : ∀ (x : Int32) (M : eM), P x M → e_F am i d kc' ks' pc' lv (.int x :: r) M Q) : e_F am i d kc ks pc lv st M Q := by
  subst hav; subst hL; subst hk1; subst hk2
  exact f_callV hd hq hj hnf hz hst hdr hl hlen h8 g g1 g2 hp (e_E.post h (by rintro v M1 ⟨x, rfl, g⟩; exact k _ _ g))
theorem f_callII {x b j na o d' mc ms nj kc' ks' : Nat} {z : Int} {st as av : List Value} {P : Int32 → eM → Prop} (hd : d = d' + 1) (hq : e_dec i pc = some (.invokespecial x, 3, j, b, z)) (hj : j < 79) (hnf : e_nf j = true) (hz : z.toNat = na) (hst : st.take na = as) (hdr : st.drop na = .ref o :: r) (hl : na ≤ st.length) (hav : .ref o :: as.reverse = av) (hL : (e_m j).2.2.1 = nj) (hlen : (lg_sl av).length ≤ nj) (h8 : (r.map fun v => v.category).sum ≤ 8) (g : e_c0 ≤ o) (g1 : mc ≤ kc) (g2 : ms ≤ ks) (hk1 : kc - mc = kc') (hk2 : ks - ms = ks') (hp : pc + 3 = pc') (h : e_CI j d' mc ms av M P) (k : ∀ (x : Int32) (M : eM), P x M → e_F am i d kc' ks' pc' lv (.int x :: r) M Q) : e_F am i d kc ks pc lv st M Q := by
  subst hav; subst hL; subst hk1; subst hk2
  exact f_callI hd hq hj hnf hz hst hdr hl hlen h8 g g1 g2 hp (e_E.post h (by rintro v M1 ⟨x, rfl, g⟩; exact k _ _ g))
theorem f_callVL {x b j na o d' mc ms nj kc' ks' : Nat} {z : Int} {st as av : List Value} {P : Int64 → eM → Prop} (hd : d = d' + 1) (hq : e_dec i pc = some (.invokevirtual x, 3, j, b, z)) (hj : j < 79) (hnf : e_nf j = true) (hz : z.toNat = na) (hst : st.take na = as) (hdr : st.drop na = .ref o :: r) (hl : na ≤ st.length) (hav : .ref o :: as.reverse = av) (hL : (e_m j).2.2.1 = nj) (hlen : (lg_sl av).length ≤ nj) (h8 : (r.map fun v => v.category).sum ≤ 8) (g : e_ob M o b) (g1 : mc ≤ kc) (g2 : ms ≤ ks) (hk1 : kc - mc = kc') (hk2 : ks - ms = ks') (hp : pc + 3 = pc') (h : e_CL j d' mc ms av M P) (k : ∀ (x : Int64) (M : eM), P x M → e_F am i d kc' ks' pc' lv (.long x :: r) M Q) : e_F am i d kc ks pc lv st M Q := by
  subst hav; subst hL; subst hk1; subst hk2
  exact f_callV hd hq hj hnf hz hst hdr hl hlen h8 g g1 g2 hp (e_E.post h (by rintro v M1 ⟨x, rfl, g⟩; exact k _ _ g))
theorem f_callIL {x b j na o d' mc ms nj kc' ks' : Nat} {z : Int} {st as av : List Value} {P : Int64 → eM → Prop} (hd : d = d' + 1) (hq : e_dec i pc = some (.invokespecial x, 3, j, b, z)) (hj : j < 79) (hnf : e_nf j = true) (hz : z.toNat = na) (hst : st.take na = as) (hdr : st.drop na = .ref o :: r) (hl : na ≤ st.length) (hav : .ref o :: as.reverse = av) (hL : (e_m j).2.2.1 = nj) (hlen : (lg_sl av).length ≤ nj) (h8 : (r.map fun v => v.category).sum ≤ 8) (g : e_c0 ≤ o) (g1 : mc ≤ kc) (g2 : ms ≤ ks) (hk1 : kc - mc = kc') (hk2 : ks - ms = ks') (hp : pc + 3 = pc') (h : e_CL j d' mc ms av M P) (k : ∀ (x : Int64) (M : eM), P x M → e_F am i d kc' ks' pc' lv (.long x :: r) M Q) : e_F am i d kc ks pc lv st M Q := by
  subst hav; subst hL; subst hk1; subst hk2
  exact f_callI hd hq hj hnf hz hst hdr hl hlen h8 g g1 g2 hp (e_E.post h (by rintro v M1 ⟨x, rfl, g⟩; exact k _ _ g))
theorem f_callVR {x b j na o d' mc ms nj kc' ks' : Nat} {z : Int} {st as av : List Value} {P : Nat → eM → Prop} (hd : d = d' + 1) (hq : e_dec i pc = some (.invokevirtual x, 3, j, b, z)) (hj : j < 79) (hnf : e_nf j = true) (hz : z.toNat = na) (hst : st.take na = as) (hdr : st.drop na = .ref o :: r) (hl : na ≤ st.length) (hav : .ref o :: as.reverse = av) (hL : (e_m j).2.2.1 = nj) (hlen : (lg_sl av).length ≤ nj) (h8 : (r.map fun v => v.category).sum ≤ 8) (g : e_ob M o b) (g1 : mc ≤ kc) (g2 : ms ≤ ks) (hk1 : kc - mc = kc') (hk2 : ks - ms = ks') (hp : pc + 3 = pc') (h : e_CR j d' mc ms av M P) (k : ∀ (x : Nat) (M : eM), P x M → e_F am i d kc' ks' pc' lv (.ref x :: r) M Q) : e_F am i d kc ks pc lv st M Q := by
  subst hav; subst hL; subst hk1; subst hk2
  exact f_callV hd hq hj hnf hz hst hdr hl hlen h8 g g1 g2 hp (e_E.post h (by rintro v M1 ⟨x, rfl, g⟩; exact k _ _ g))
theorem f_callIR {x b j na o d' mc ms nj kc' ks' : Nat} {z : Int} {st as av : List Value} {P : Nat → eM → Prop} (hd : d = d' + 1) (hq : e_dec i pc = some (.invokespecial x, 3, j, b, z)) (hj : j < 79) (hnf : e_nf j = true) (hz : z.toNat = na) (hst : st.take na = as) (hdr : st.drop na = .ref o :: r) (hl : na ≤ st.length) (hav : .ref o :: as.reverse = av) (hL : (e_m j).2.2.1 = nj) (hlen : (lg_sl av).length ≤ nj) (h8 : (r.map fun v => v.category).sum ≤ 8) (g : e_c0 ≤ o) (g1 : mc ≤ kc) (g2 : ms ≤ ks) (hk1 : kc - mc = kc') (hk2 : ks - ms = ks') (hp : pc + 3 = pc') (h : e_CR j d' mc ms av M P) (k : ∀ (x : Nat) (M : eM), P x M → e_F am i d kc' ks' pc' lv (.ref x :: r) M Q) : e_F am i d kc ks pc lv st M Q := by
  subst hav; subst hL; subst hk1; subst hk2
  exact f_callI hd hq hj hnf hz hst hdr hl hlen h8 g g1 g2 hp (e_E.post h (by rintro v M1 ⟨x, rfl, g⟩; exact k _ _ g))
theorem f_callVV {x b j na o d' mc ms nj kc' ks' : Nat} {z : Int} {st as av : List Value} {P : eM → Prop} (hd : d = d' + 1) (hq : e_dec i pc = some (.invokevirtual x, 3, j, b, z)) (hj : j < 79) (hnf : e_nf j = true) (hz : z.toNat = na) (hst : st.take na = as) (hdr : st.drop na = .ref o :: r) (hl : na ≤ st.length) (hav : .ref o :: as.reverse = av) (hL : (e_m j).2.2.1 = nj) (hlen : (lg_sl av).length ≤ nj) (h8 : (r.map fun v => v.category).sum ≤ 8) (g : e_ob M o b) (g1 : mc ≤ kc) (g2 : ms ≤ ks) (hk1 : kc - mc = kc') (hk2 : ks - ms = ks') (hp : pc + 3 = pc') (h : e_CV j d' mc ms av M P) (k : ∀ (M : eM), P M → e_F am i d kc' ks' pc' lv (r) M Q) : e_F am i d kc ks pc lv st M Q := by
  subst hav; subst hL; subst hk1; subst hk2
  exact f_callV hd hq hj hnf hz hst hdr hl hlen h8 g g1 g2 hp (e_E.post h (by rintro v M1 ⟨rfl, g⟩; exact k _ g))
theorem f_callIV {x b j na o d' mc ms nj kc' ks' : Nat} {z : Int} {st as av : List Value} {P : eM → Prop} (hd : d = d' + 1) (hq : e_dec i pc = some (.invokespecial x, 3, j, b, z)) (hj : j < 79) (hnf : e_nf j = true) (hz : z.toNat = na) (hst : st.take na = as) (hdr : st.drop na = .ref o :: r) (hl : na ≤ st.length) (hav : .ref o :: as.reverse = av) (hL : (e_m j).2.2.1 = nj) (hlen : (lg_sl av).length ≤ nj) (h8 : (r.map fun v => v.category).sum ≤ 8) (g : e_c0 ≤ o) (g1 : mc ≤ kc) (g2 : ms ≤ ks) (hk1 : kc - mc = kc') (hk2 : ks - ms = ks') (hp : pc + 3 = pc') (h : e_CV j d' mc ms av M P) (k : ∀ (M : eM), P M → e_F am i d kc' ks' pc' lv (r) M Q) : e_F am i d kc ks pc lv st M Q := by
  subst hav; subst hL; subst hk1; subst hk2
  exact f_callI hd hq hj hnf hz hst hdr hl hlen h8 g g1 g2 hp (e_E.post h (by rintro v M1 ⟨rfl, g⟩; exact k _ g))

end ROWF
