/-! ===== a row an instruction, on numbered cells ===== -/
abbrev gi (M : eM) (a j : Nat) : Int32 := M.2.2.1 a j
abbrev gl (M : eM) (a j : Nat) : Int64 := M.2.2.2.1 a j
abbrev gr (M : eM) (a j : Nat) : Nat := M.2.2.2.2 a j
abbrev gt (M : eM) (a : Nat) : Nat := (M.2.1 a).1
abbrev gn (M : eM) (a : Nat) : Nat := (M.2.1 a).2
def e_CI (j d mc ms : Nat) (av : List Value) (M : eM) (Q : Int32 → eM → Prop) : Prop := e_C j d mc ms av M (fun v M' => ∃ x, v = some (.int x) ∧ Q x M')
def e_CL (j d mc ms : Nat) (av : List Value) (M : eM) (Q : Int64 → eM → Prop) : Prop := e_C j d mc ms av M (fun v M' => ∃ x, v = some (.long x) ∧ Q x M')
def e_CR (j d mc ms : Nat) (av : List Value) (M : eM) (Q : Nat → eM → Prop) : Prop := e_C j d mc ms av M (fun v M' => ∃ x, v = some (.ref x) ∧ Q x M')
def e_CV (j d mc ms : Nat) (av : List Value) (M : eM) (Q : eM → Prop) : Prop := e_C j d mc ms av M (fun v M' => v = none ∧ Q M')
def e_QI (Q : Int32 → eM → Prop) : eQ := fun v M' => ∃ x, v = some (.int x) ∧ Q x M'
def e_QL (Q : Int64 → eM → Prop) : eQ := fun v M' => ∃ x, v = some (.long x) ∧ Q x M'
def e_QR (Q : Nat → eM → Prop) : eQ := fun v M' => ∃ x, v = some (.ref x) ∧ Q x M'
def e_QV (Q : eM → Prop) : eQ := fun v M' => v = none ∧ Q M'
theorem e_sn {lv : eL} : e_sub [] lv := fun _ h => by cases h
theorem e_sc {lv lv2 : eL} {q : Nat × Value} (h : q ∈ lv2) (hs : e_sub lv lv2) : e_sub (q :: lv) lv2 := fun x hx => (List.mem_cons.mp hx).elim (fun e => e ▸ h) (hs x)
section ROW
variable {i d kc ks pc pc' : Nat} {lv lv' : eL} {r : List Value} {M : eM} {Q : eQ}
theorem r_iconst {n : Int} {y : Int32} (hq : e_dec i pc = some (.iconst n, 1, 0, 0, 0)) (hv : Int32.ofInt n = y) (hp : pc + 1 = pc') (h : e_E i d kc ks pc' lv (.int y :: r) M Q) : e_E i d kc ks pc lv r M Q := by subst hp; subst hv; exact e_st hq h
theorem r_bipush {n : Int} {y : Int32} (hq : e_dec i pc = some (.bipush n, 2, 0, 0, 0)) (hv : (Int8.ofInt n).toInt32 = y) (hp : pc + 2 = pc') (h : e_E i d kc ks pc' lv (.int y :: r) M Q) : e_E i d kc ks pc lv r M Q := by subst hp; subst hv; exact e_st hq h
theorem r_sipush {n : Int} {y : Int32} (hq : e_dec i pc = some (.sipush n, 3, 0, 0, 0)) (hv : (Int16.ofInt n).toInt32 = y) (hp : pc + 3 = pc') (h : e_E i d kc ks pc' lv (.int y :: r) M Q) : e_E i d kc ks pc lv r M Q := by subst hp; subst hv; exact e_st hq h
theorem r_lconst {n : Fin 2} {y : Int64} (hq : e_dec i pc = some (.lconst n, 1, 0, 0, 0)) (hv : Int64.ofNat (n : Nat) = y) (hp : pc + 1 = pc') (h : e_E i d kc ks pc' lv (.long y :: r) M Q) : e_E i d kc ks pc lv r M Q := by subst hp; subst hv; exact e_st hq h
theorem r_ldc {x : Nat} {z : Int} {y : Int32} (hq : e_dec i pc = some (.ldc x, 2, 0, 0, z)) (hv : Int32.ofInt z = y) (hp : pc + 2 = pc') (h : e_E i d kc ks pc' lv (.int y :: r) M Q) : e_E i d kc ks pc lv r M Q := by subst hp; subst hv; exact e_st hq ⟨rfl, h⟩
theorem r_ldc_w {x : Nat} {z : Int} {y : Int32} (hq : e_dec i pc = some (.ldc_w x, 3, 0, 0, z)) (hv : Int32.ofInt z = y) (hp : pc + 3 = pc') (h : e_E i d kc ks pc' lv (.int y :: r) M Q) : e_E i d kc ks pc lv r M Q := by subst hp; subst hv; exact e_st hq ⟨rfl, h⟩
theorem r_ldc2_w {x : Nat} {z : Int} {y : Int64} (hq : e_dec i pc = some (.ldc2_w x, 3, 0, 0, z)) (hv : Int64.ofInt z = y) (hp : pc + 3 = pc') (h : e_E i d kc ks pc' lv (.long y :: r) M Q) : e_E i d kc ks pc lv r M Q := by subst hp; subst hv; exact e_st hq h
theorem r_aconst_null (hq : e_dec i pc = some (.aconst_null, 1, 0, 0, 0)) (hp : pc + 1 = pc') (h : e_E i d kc ks pc' lv (.ref 0 :: r) M Q) : e_E i d kc ks pc lv r M Q := by subst hp; exact e_st hq h
theorem r_iload_n {j : Fin 4} {x : Int32} (hq : e_dec i pc = some (.iload_n j, 1, 0, 0, 0)) (hl : lv.lookup (j : Nat) = some (.int x)) (hp : pc + 1 = pc') (h : e_E i d kc ks pc' lv (.int x :: r) M Q) : e_E i d kc ks pc lv r M Q := by
  subst hp
  refine e_st hq ?_
  show e_lk _ _ _
  unfold e_lk
  rw [hl]
  exact ⟨rfl, h⟩
theorem r_iload {j : Nat} {x : Int32} (hq : e_dec i pc = some (.iload j, 2, 0, 0, 0)) (hl : lv.lookup (j : Nat) = some (.int x)) (hp : pc + 2 = pc') (h : e_E i d kc ks pc' lv (.int x :: r) M Q) : e_E i d kc ks pc lv r M Q := by
  subst hp
  refine e_st hq ?_
  show e_lk _ _ _
  unfold e_lk
  rw [hl]
  exact ⟨rfl, h⟩
theorem r_lload_n {j : Fin 4} {x : Int64} (hq : e_dec i pc = some (.lload_n j, 1, 0, 0, 0)) (hl : lv.lookup (j : Nat) = some (.long x)) (hp : pc + 1 = pc') (h : e_E i d kc ks pc' lv (.long x :: r) M Q) : e_E i d kc ks pc lv r M Q := by
  subst hp
  refine e_st hq ?_
  show e_lk _ _ _
  unfold e_lk
  rw [hl]
  exact ⟨rfl, h⟩
theorem r_lload {j : Nat} {x : Int64} (hq : e_dec i pc = some (.lload j, 2, 0, 0, 0)) (hl : lv.lookup (j : Nat) = some (.long x)) (hp : pc + 2 = pc') (h : e_E i d kc ks pc' lv (.long x :: r) M Q) : e_E i d kc ks pc lv r M Q := by
  subst hp
  refine e_st hq ?_
  show e_lk _ _ _
  unfold e_lk
  rw [hl]
  exact ⟨rfl, h⟩
theorem r_aload_n {j : Fin 4} {x : Nat} (hq : e_dec i pc = some (.aload_n j, 1, 0, 0, 0)) (hl : lv.lookup (j : Nat) = some (.ref x)) (hp : pc + 1 = pc') (h : e_E i d kc ks pc' lv (.ref x :: r) M Q) : e_E i d kc ks pc lv r M Q := by
  subst hp
  refine e_st hq ?_
  show e_lk _ _ _
  unfold e_lk
  rw [hl]
  exact ⟨rfl, h⟩
theorem r_aload {j : Nat} {x : Nat} (hq : e_dec i pc = some (.aload j, 2, 0, 0, 0)) (hl : lv.lookup (j : Nat) = some (.ref x)) (hp : pc + 2 = pc') (h : e_E i d kc ks pc' lv (.ref x :: r) M Q) : e_E i d kc ks pc lv r M Q := by
  subst hp
  refine e_st hq ?_
  show e_lk _ _ _
  unfold e_lk
  rw [hl]
  exact ⟨rfl, h⟩
theorem r_istore_n {j : Fin 4} {x : Int32} {nL : Nat} (hq : e_dec i pc = some (.istore_n j, 1, 0, 0, 0)) (hL : (e_m i).2.2.1 = nL) (hj : (j : Nat) < nL) (hl : e_s1 lv j (.int x) = lv') (hp : pc + 1 = pc') (h : e_E i d kc ks pc' lv' r M Q) : e_E i d kc ks pc lv (.int x :: r) M Q := by subst hp; subst hl; subst hL; exact e_st hq ⟨hj, h⟩
theorem r_istore {j : Nat} {x : Int32} {nL : Nat} (hq : e_dec i pc = some (.istore j, 2, 0, 0, 0)) (hL : (e_m i).2.2.1 = nL) (hj : (j : Nat) < nL) (hl : e_s1 lv j (.int x) = lv') (hp : pc + 2 = pc') (h : e_E i d kc ks pc' lv' r M Q) : e_E i d kc ks pc lv (.int x :: r) M Q := by subst hp; subst hl; subst hL; exact e_st hq ⟨hj, h⟩
theorem r_lstore_n {j : Fin 4} {x : Int64} {nL : Nat} (hq : e_dec i pc = some (.lstore_n j, 1, 0, 0, 0)) (hL : (e_m i).2.2.1 = nL) (hj : (j : Nat) + 1 < nL) (hl : e_s2 lv j (.long x) = lv') (hp : pc + 1 = pc') (h : e_E i d kc ks pc' lv' r M Q) : e_E i d kc ks pc lv (.long x :: r) M Q := by subst hp; subst hl; subst hL; exact e_st hq ⟨hj, h⟩
theorem r_lstore {j : Nat} {x : Int64} {nL : Nat} (hq : e_dec i pc = some (.lstore j, 2, 0, 0, 0)) (hL : (e_m i).2.2.1 = nL) (hj : (j : Nat) + 1 < nL) (hl : e_s2 lv j (.long x) = lv') (hp : pc + 2 = pc') (h : e_E i d kc ks pc' lv' r M Q) : e_E i d kc ks pc lv (.long x :: r) M Q := by subst hp; subst hl; subst hL; exact e_st hq ⟨hj, h⟩
theorem r_astore_n {j : Fin 4} {x : Nat} {nL : Nat} (hq : e_dec i pc = some (.astore_n j, 1, 0, 0, 0)) (hL : (e_m i).2.2.1 = nL) (hj : (j : Nat) < nL) (hl : e_s1 lv j (.ref x) = lv') (hp : pc + 1 = pc') (h : e_E i d kc ks pc' lv' r M Q) : e_E i d kc ks pc lv (.ref x :: r) M Q := by subst hp; subst hl; subst hL; exact e_st hq ⟨hj, h⟩
theorem r_astore {j : Nat} {x : Nat} {nL : Nat} (hq : e_dec i pc = some (.astore j, 2, 0, 0, 0)) (hL : (e_m i).2.2.1 = nL) (hj : (j : Nat) < nL) (hl : e_s1 lv j (.ref x) = lv') (hp : pc + 2 = pc') (h : e_E i d kc ks pc' lv' r M Q) : e_E i d kc ks pc lv (.ref x :: r) M Q := by subst hp; subst hl; subst hL; exact e_st hq ⟨hj, h⟩
theorem r_iinc {j nL : Nat} {n : Int} {x y : Int32} (hq : e_dec i pc = some (.iinc j n, 3, 0, 0, 0)) (hl : lv.lookup j = some (.int x)) (hv : Int32.ofInt n = y) (hL : (e_m i).2.2.1 = nL) (hj : j < nL) (hw : e_s1 lv j (.int (x + y)) = lv') (hp : pc + 3 = pc') (h : e_E i d kc ks pc' lv' r M Q) : e_E i d kc ks pc lv r M Q := by
  subst hp; subst hw; subst hv; subst hL
  refine e_st hq ?_
  show e_lk _ _ _
  unfold e_lk
  rw [hl]
  exact ⟨hj, h⟩
theorem r_iadd {x y : Int32} (hq : e_dec i pc = some (.iadd, 1, 0, 0, 0)) (hp : pc + 1 = pc') (h : e_E i d kc ks pc' lv (.int (x + y) :: r) M Q) : e_E i d kc ks pc lv (.int y :: .int x :: r) M Q := by subst hp; exact e_st hq h
theorem r_isub {x y : Int32} (hq : e_dec i pc = some (.isub, 1, 0, 0, 0)) (hp : pc + 1 = pc') (h : e_E i d kc ks pc' lv (.int (x - y) :: r) M Q) : e_E i d kc ks pc lv (.int y :: .int x :: r) M Q := by subst hp; exact e_st hq h
theorem r_imul {x y : Int32} (hq : e_dec i pc = some (.imul, 1, 0, 0, 0)) (hp : pc + 1 = pc') (h : e_E i d kc ks pc' lv (.int (x * y) :: r) M Q) : e_E i d kc ks pc lv (.int y :: .int x :: r) M Q := by subst hp; exact e_st hq h
theorem r_iand {x y : Int32} (hq : e_dec i pc = some (.iand, 1, 0, 0, 0)) (hp : pc + 1 = pc') (h : e_E i d kc ks pc' lv (.int (x &&& y) :: r) M Q) : e_E i d kc ks pc lv (.int y :: .int x :: r) M Q := by subst hp; exact e_st hq h
theorem r_ior {x y : Int32} (hq : e_dec i pc = some (.ior, 1, 0, 0, 0)) (hp : pc + 1 = pc') (h : e_E i d kc ks pc' lv (.int (x ||| y) :: r) M Q) : e_E i d kc ks pc lv (.int y :: .int x :: r) M Q := by subst hp; exact e_st hq h
theorem r_ixor {x y : Int32} (hq : e_dec i pc = some (.ixor, 1, 0, 0, 0)) (hp : pc + 1 = pc') (h : e_E i d kc ks pc' lv (.int (x ^^^ y) :: r) M Q) : e_E i d kc ks pc lv (.int y :: .int x :: r) M Q := by subst hp; exact e_st hq h
theorem r_ishl {x y : Int32} (hq : e_dec i pc = some (.ishl, 1, 0, 0, 0)) (hp : pc + 1 = pc') (h : e_E i d kc ks pc' lv (.int (x <<< (y &&& 31)) :: r) M Q) : e_E i d kc ks pc lv (.int y :: .int x :: r) M Q := by subst hp; exact e_st hq h
theorem r_ishr {x y : Int32} (hq : e_dec i pc = some (.ishr, 1, 0, 0, 0)) (hp : pc + 1 = pc') (h : e_E i d kc ks pc' lv (.int (x >>> (y &&& 31)) :: r) M Q) : e_E i d kc ks pc lv (.int y :: .int x :: r) M Q := by subst hp; exact e_st hq h
theorem r_iushr {x y : Int32} (hq : e_dec i pc = some (.iushr, 1, 0, 0, 0)) (hp : pc + 1 = pc') (h : e_E i d kc ks pc' lv (.int ((x.toUInt32 >>> (y.toUInt32 &&& Int32.toUInt32 31)).toInt32) :: r) M Q) : e_E i d kc ks pc lv (.int y :: .int x :: r) M Q := by subst hp; exact e_st hq h
theorem r_idiv {x y : Int32} (hq : e_dec i pc = some (.idiv, 1, 0, 0, 0)) (h0 : ¬ y = 0) (hp : pc + 1 = pc') (h : e_E i d kc ks pc' lv (.int (x / y) :: r) M Q) : e_E i d kc ks pc lv (.int y :: .int x :: r) M Q := by subst hp; exact e_st hq ⟨h0, h⟩
theorem r_irem {x y : Int32} (hq : e_dec i pc = some (.irem, 1, 0, 0, 0)) (h0 : ¬ y = 0) (hp : pc + 1 = pc') (h : e_E i d kc ks pc' lv (.int (x - x / y * y) :: r) M Q) : e_E i d kc ks pc lv (.int y :: .int x :: r) M Q := by subst hp; exact e_st hq ⟨h0, h⟩
theorem r_ineg {x : Int32} (hq : e_dec i pc = some (.ineg, 1, 0, 0, 0)) (hp : pc + 1 = pc') (h : e_E i d kc ks pc' lv (.int (-x) :: r) M Q) : e_E i d kc ks pc lv (.int x :: r) M Q := by subst hp; exact e_st hq h
theorem r_ladd {x y : Int64} (hq : e_dec i pc = some (.ladd, 1, 0, 0, 0)) (hp : pc + 1 = pc') (h : e_E i d kc ks pc' lv (.long (x + y) :: r) M Q) : e_E i d kc ks pc lv (.long y :: .long x :: r) M Q := by subst hp; exact e_st hq h
theorem r_land {x y : Int64} (hq : e_dec i pc = some (.land, 1, 0, 0, 0)) (hp : pc + 1 = pc') (h : e_E i d kc ks pc' lv (.long (x &&& y) :: r) M Q) : e_E i d kc ks pc lv (.long y :: .long x :: r) M Q := by subst hp; exact e_st hq h
theorem r_lor {x y : Int64} (hq : e_dec i pc = some (.lor, 1, 0, 0, 0)) (hp : pc + 1 = pc') (h : e_E i d kc ks pc' lv (.long (x ||| y) :: r) M Q) : e_E i d kc ks pc lv (.long y :: .long x :: r) M Q := by subst hp; exact e_st hq h
theorem r_lxor {x y : Int64} (hq : e_dec i pc = some (.lxor, 1, 0, 0, 0)) (hp : pc + 1 = pc') (h : e_E i d kc ks pc' lv (.long (x ^^^ y) :: r) M Q) : e_E i d kc ks pc lv (.long y :: .long x :: r) M Q := by subst hp; exact e_st hq h
theorem r_lcmp {x y : Int64} (hq : e_dec i pc = some (.lcmp, 1, 0, 0, 0)) (hp : pc + 1 = pc') (h : e_E i d kc ks pc' lv (.int (lg_cmp x y) :: r) M Q) : e_E i d kc ks pc lv (.long y :: .long x :: r) M Q := by subst hp; exact e_st hq h
theorem r_lshl {x : Int64} {y : Int32} (hq : e_dec i pc = some (.lshl, 1, 0, 0, 0)) (hp : pc + 1 = pc') (h : e_E i d kc ks pc' lv (.long (x <<< (y.toInt64 &&& 63)) :: r) M Q) : e_E i d kc ks pc lv (.int y :: .long x :: r) M Q := by subst hp; exact e_st hq h
theorem r_lshr {x : Int64} {y : Int32} (hq : e_dec i pc = some (.lshr, 1, 0, 0, 0)) (hp : pc + 1 = pc') (h : e_E i d kc ks pc' lv (.long (x >>> (y.toInt64 &&& 63)) :: r) M Q) : e_E i d kc ks pc lv (.int y :: .long x :: r) M Q := by subst hp; exact e_st hq h
theorem r_lushr {x : Int64} {y : Int32} (hq : e_dec i pc = some (.lushr, 1, 0, 0, 0)) (hp : pc + 1 = pc') (h : e_E i d kc ks pc' lv (.long ((x.toUInt64 >>> (y.toInt64.toUInt64 &&& Int64.toUInt64 63)).toInt64) :: r) M Q) : e_E i d kc ks pc lv (.int y :: .long x :: r) M Q := by subst hp; exact e_st hq h
theorem r_i2l {x : Int32} (hq : e_dec i pc = some (.i2l, 1, 0, 0, 0)) (hp : pc + 1 = pc') (h : e_E i d kc ks pc' lv (.long x.toInt64 :: r) M Q) : e_E i d kc ks pc lv (.int x :: r) M Q := by subst hp; exact e_st hq h
theorem r_l2i {x : Int64} (hq : e_dec i pc = some (.l2i, 1, 0, 0, 0)) (hp : pc + 1 = pc') (h : e_E i d kc ks pc' lv (.int x.toInt32 :: r) M Q) : e_E i d kc ks pc lv (.long x :: r) M Q := by subst hp; exact e_st hq h
theorem r_i2b {x : Int32} (hq : e_dec i pc = some (.i2b, 1, 0, 0, 0)) (hp : pc + 1 = pc') (h : e_E i d kc ks pc' lv (.int x.toInt8.toInt32 :: r) M Q) : e_E i d kc ks pc lv (.int x :: r) M Q := by subst hp; exact e_st hq h
theorem r_i2s {x : Int32} (hq : e_dec i pc = some (.i2s, 1, 0, 0, 0)) (hp : pc + 1 = pc') (h : e_E i d kc ks pc' lv (.int x.toInt16.toInt32 :: r) M Q) : e_E i d kc ks pc lv (.int x :: r) M Q := by subst hp; exact e_st hq h
theorem r_dup {v : Value} (hq : e_dec i pc = some (.dup, 1, 0, 0, 0)) (hc : v.category = 1) (hp : pc + 1 = pc') (h : e_E i d kc ks pc' lv (v :: v :: r) M Q) : e_E i d kc ks pc lv (v :: r) M Q := by subst hp; exact e_st hq ⟨hc, h⟩
theorem r_dup2 {v u : Value} (hq : e_dec i pc = some (.dup2, 1, 0, 0, 0)) (hc : v.category = 1) (hu : u.category = 1) (hp : pc + 1 = pc') (h : e_E i d kc ks pc' lv (v :: u :: v :: u :: r) M Q) : e_E i d kc ks pc lv (v :: u :: r) M Q := by subst hp; exact e_st hq ⟨hc, hu, h⟩
theorem r_pop {v : Value} (hq : e_dec i pc = some (.pop, 1, 0, 0, 0)) (hc : v.category = 1) (hp : pc + 1 = pc') (h : e_E i d kc ks pc' lv r M Q) : e_E i d kc ks pc lv (v :: r) M Q := by subst hp; exact e_st hq ⟨hc, h⟩
theorem r_goto {o : Int} (hq : e_dec i pc = some (.goto o, 3, pc', 0, 0)) (h : e_E i d kc ks pc' lv r M Q) : e_E i d kc ks pc lv r M Q := e_st hq h
theorem r_if_eq {o : Int} {t : Nat} {x : Int32} (hq : e_dec i pc = some (.ifCond .eq o, 3, t, 0, 0)) (hp : pc + 3 = pc') (h1 : x = 0 → e_E i d kc ks t lv r M Q) (h2 : ¬ x = 0 → e_E i d kc ks pc' lv r M Q) : e_E i d kc ks pc lv (.int x :: r) M Q := by subst hp; exact e_st hq ⟨h1, h2⟩
theorem r_if_ne {o : Int} {t : Nat} {x : Int32} (hq : e_dec i pc = some (.ifCond .ne o, 3, t, 0, 0)) (hp : pc + 3 = pc') (h1 : ¬ x = 0 → e_E i d kc ks t lv r M Q) (h2 : x = 0 → e_E i d kc ks pc' lv r M Q) : e_E i d kc ks pc lv (.int x :: r) M Q := by subst hp; exact e_st hq ⟨h1, h2⟩
theorem r_if_lt {o : Int} {t : Nat} {x : Int32} (hq : e_dec i pc = some (.ifCond .lt o, 3, t, 0, 0)) (hp : pc + 3 = pc') (h1 : x < 0 → e_E i d kc ks t lv r M Q) (h2 : ¬ x < 0 → e_E i d kc ks pc' lv r M Q) : e_E i d kc ks pc lv (.int x :: r) M Q := by subst hp; exact e_st hq ⟨h1, h2⟩
theorem r_if_ge {o : Int} {t : Nat} {x : Int32} (hq : e_dec i pc = some (.ifCond .ge o, 3, t, 0, 0)) (hp : pc + 3 = pc') (h1 : 0 ≤ x → e_E i d kc ks t lv r M Q) (h2 : ¬ 0 ≤ x → e_E i d kc ks pc' lv r M Q) : e_E i d kc ks pc lv (.int x :: r) M Q := by subst hp; exact e_st hq ⟨h1, h2⟩
theorem r_if_gt {o : Int} {t : Nat} {x : Int32} (hq : e_dec i pc = some (.ifCond .gt o, 3, t, 0, 0)) (hp : pc + 3 = pc') (h1 : 0 < x → e_E i d kc ks t lv r M Q) (h2 : ¬ 0 < x → e_E i d kc ks pc' lv r M Q) : e_E i d kc ks pc lv (.int x :: r) M Q := by subst hp; exact e_st hq ⟨h1, h2⟩
theorem r_if_le {o : Int} {t : Nat} {x : Int32} (hq : e_dec i pc = some (.ifCond .le o, 3, t, 0, 0)) (hp : pc + 3 = pc') (h1 : x ≤ 0 → e_E i d kc ks t lv r M Q) (h2 : ¬ x ≤ 0 → e_E i d kc ks pc' lv r M Q) : e_E i d kc ks pc lv (.int x :: r) M Q := by subst hp; exact e_st hq ⟨h1, h2⟩
theorem r_icmp_eq {o : Int} {t : Nat} {x y : Int32} (hq : e_dec i pc = some (.if_icmp .eq o, 3, t, 0, 0)) (hp : pc + 3 = pc') (h1 : x = y → e_E i d kc ks t lv r M Q) (h2 : ¬ x = y → e_E i d kc ks pc' lv r M Q) : e_E i d kc ks pc lv (.int y :: .int x :: r) M Q := by subst hp; exact e_st hq ⟨h1, h2⟩
theorem r_icmp_ne {o : Int} {t : Nat} {x y : Int32} (hq : e_dec i pc = some (.if_icmp .ne o, 3, t, 0, 0)) (hp : pc + 3 = pc') (h1 : ¬ x = y → e_E i d kc ks t lv r M Q) (h2 : x = y → e_E i d kc ks pc' lv r M Q) : e_E i d kc ks pc lv (.int y :: .int x :: r) M Q := by subst hp; exact e_st hq ⟨h1, h2⟩
theorem r_icmp_lt {o : Int} {t : Nat} {x y : Int32} (hq : e_dec i pc = some (.if_icmp .lt o, 3, t, 0, 0)) (hp : pc + 3 = pc') (h1 : x < y → e_E i d kc ks t lv r M Q) (h2 : ¬ x < y → e_E i d kc ks pc' lv r M Q) : e_E i d kc ks pc lv (.int y :: .int x :: r) M Q := by subst hp; exact e_st hq ⟨h1, h2⟩
theorem r_icmp_ge {o : Int} {t : Nat} {x y : Int32} (hq : e_dec i pc = some (.if_icmp .ge o, 3, t, 0, 0)) (hp : pc + 3 = pc') (h1 : y ≤ x → e_E i d kc ks t lv r M Q) (h2 : ¬ y ≤ x → e_E i d kc ks pc' lv r M Q) : e_E i d kc ks pc lv (.int y :: .int x :: r) M Q := by subst hp; exact e_st hq ⟨h1, h2⟩
theorem r_icmp_gt {o : Int} {t : Nat} {x y : Int32} (hq : e_dec i pc = some (.if_icmp .gt o, 3, t, 0, 0)) (hp : pc + 3 = pc') (h1 : y < x → e_E i d kc ks t lv r M Q) (h2 : ¬ y < x → e_E i d kc ks pc' lv r M Q) : e_E i d kc ks pc lv (.int y :: .int x :: r) M Q := by subst hp; exact e_st hq ⟨h1, h2⟩
theorem r_icmp_le {o : Int} {t : Nat} {x y : Int32} (hq : e_dec i pc = some (.if_icmp .le o, 3, t, 0, 0)) (hp : pc + 3 = pc') (h1 : x ≤ y → e_E i d kc ks t lv r M Q) (h2 : ¬ x ≤ y → e_E i d kc ks pc' lv r M Q) : e_E i d kc ks pc lv (.int y :: .int x :: r) M Q := by subst hp; exact e_st hq ⟨h1, h2⟩
theorem r_ifnull {o : Int} {t : Nat} {x : Nat} (hq : e_dec i pc = some (.ifnull o, 3, t, 0, 0)) (hp : pc + 3 = pc') (h1 : x = 0 → e_E i d kc ks t lv r M Q) (h2 : ¬ x = 0 → e_E i d kc ks pc' lv r M Q) : e_E i d kc ks pc lv (.ref x :: r) M Q := by subst hp; exact e_st hq ⟨h1, h2⟩
theorem r_ifnonnull {o : Int} {t : Nat} {x : Nat} (hq : e_dec i pc = some (.ifnonnull o, 3, t, 0, 0)) (hp : pc + 3 = pc') (h1 : ¬ x = 0 → e_E i d kc ks t lv r M Q) (h2 : x = 0 → e_E i d kc ks pc' lv r M Q) : e_E i d kc ks pc lv (.ref x :: r) M Q := by subst hp; exact e_st hq ⟨h1, h2⟩
/-- a switch, as a row of tests: each number with its place, then the place for all others -/
def e_sw (x : Int32) (k : Nat → Prop) : List (Int × Nat) → Nat → Prop
  | [], t => k t
  | (n, t) :: ps, u => (x = Int32.ofInt n → k t) ∧ (¬ x = Int32.ofInt n → e_sw x k ps u)
theorem e_sw_i {x : Int32} {n : Int} (h1 : (Int32.ofInt n).toInt = n) : x = Int32.ofInt n ↔ x.toInt = n := ⟨fun e => by rw [e]; exact h1, fun e => Int32.toInt_inj.mp (by rw [h1]; exact e)⟩
def e_swok (ps : List (Int × Nat)) : Bool := ps.all (fun q => (Int32.ofInt q.1).toInt == q.1)
theorem e_swl {x : Int32} {k : Nat → Prop} {pc u : Nat} {dd : Int} (hu : e_tgt pc dd = u) : ∀ {ps : List (Int × Int)} {qs : List (Int × Nat)}, ps.map (fun q => (q.1, e_tgt pc q.2)) = qs → e_swok qs = true → e_sw x k qs u → k (e_tgt pc (Op.lookupswitch.offset ps dd x.toInt))
  | [], qs, hq, _, h => by
    subst hq
    subst hu
    exact h
  | (a, o) :: ps, qs, hq, hok, h => by
    subst hq
    simp only [List.map_cons, e_swok, List.all_cons, Bool.and_eq_true, beq_iff_eq] at hok
    have ih := e_swl (x := x) (k := k) (pc := pc) hu (ps := ps) rfl (by simpa [e_swok] using hok.2)
    by_cases hx : x = Int32.ofInt a
    · have := h.1 hx
      have hx2 := (e_sw_i hok.1).mp hx
      unfold Op.lookupswitch.offset
      simp [hx2, this]
    · have h2 := ih (h.2 hx)
      have hx2 : ¬ x.toInt = a := fun z => hx ((e_sw_i hok.1).mpr z)
      rw [Op.lookupswitch.offset_cons, if_neg (fun z => hx2 z.symm)]
      exact h2
theorem r_lookupswitch {dd : Int} {ps : Array (Int × Int)} {len u : Nat} {qs : List (Int × Nat)} {x : Int32} (hq : e_dec i pc = some (.lookupswitch dd ps, len, 0, 0, 0)) (hu : e_tgt pc dd = u) (hps : ps.toList.map (fun q => (q.1, e_tgt pc q.2)) = qs) (hok : e_swok qs = true) (h : e_sw x (fun t => e_E i d kc ks t lv r M Q) qs u) : e_E i d kc ks pc lv (.int x :: r) M Q := e_st hq (e_swl (k := fun t => e_E i d kc ks t lv r M Q) hu hps hok h)
theorem e_swt {x : Int32} {k : Nat → Prop} {pc u : Nat} {dd : Int} : ∀ {offs : List Int} {lo : Int} {qs : List (Int × Nat)}, (offs.zipIdx.map (fun q => (lo + (q.2 : Int), e_tgt pc q.1))) = qs → e_swok qs = true → e_sw x k qs u → ((x.toInt < lo ∨ lo + offs.length ≤ x.toInt) → k u) ∧ (¬ x.toInt < lo → x.toInt < lo + offs.length → ∃ o, offs[(x.toInt - lo).toNat]? = some o ∧ k (e_tgt pc o)) := by
  intro offs
  suffices H : ∀ (n : Nat) (lo : Int) (qs : List (Int × Nat)), (offs.zipIdx n).map (fun q => (lo + (q.2 : Int), e_tgt pc q.1)) = qs → e_swok qs = true → e_sw x k qs u → ((x.toInt < lo + n ∨ lo + n + offs.length ≤ x.toInt) → k u) ∧ (¬ x.toInt < lo + n → x.toInt < lo + n + offs.length → ∃ o, offs[(x.toInt - (lo + n)).toNat]? = some o ∧ k (e_tgt pc o)) by
    intro lo qs h1 h2 h3
    have := H 0 lo qs h1 h2 h3
    simpa using this
  induction offs with
  | nil =>
    intro n lo qs h1 h2 h3
    subst h1
    exact ⟨fun _ => h3, fun a b => by simp at b; omega⟩
  | cons o offs ih =>
    intro n lo qs h1 h2 h3
    subst h1
    simp only [List.zipIdx_cons, List.map_cons, e_swok, List.all_cons, Bool.and_eq_true, beq_iff_eq] at h2
    by_cases hx : x = Int32.ofInt (lo + n)
    · have hk := h3.1 hx
      have hx2 := (e_sw_i h2.1).mp hx
      refine ⟨fun z => ?_, fun _ _ => ⟨o, ?_, hk⟩⟩
      · exfalso
        simp only [List.length_cons] at z
        omega
      · rw [hx2]; simp
    · have h4 := ih (n + 1) lo _ rfl (by simpa [e_swok] using h2.2) (h3.2 hx)
      have hx2 : ¬ x.toInt = lo + n := fun z => hx ((e_sw_i h2.1).mpr z)
      refine ⟨fun z => h4.1 ?_, fun a b => ?_⟩
      · simp only [List.length_cons] at z
        push_cast at z ⊢
        omega
      · simp only [List.length_cons] at b
        obtain ⟨o2, g1, g2⟩ := h4.2 (by push_cast; omega) (by push_cast at b ⊢; omega)
        refine ⟨o2, ?_, g2⟩
        have e : (x.toInt - (lo + (n : Int))).toNat = (x.toInt - (lo + ((n + 1 : Nat) : Int))).toNat + 1 := by push_cast; omega
        rw [e, List.getElem?_cons_succ]
        exact g1
theorem r_tableswitch {dd lo hi : Int} {offs : Array Int} {len u : Nat} {qs : List (Int × Nat)} {x : Int32} (hq : e_dec i pc = some (.tableswitch dd lo hi offs, len, 0, 0, 0)) (hu : e_tgt pc dd = u) (hh : hi + 1 = lo + offs.toList.length) (hps : (offs.toList.zipIdx.map (fun q => (lo + (q.2 : Int), e_tgt pc q.1))) = qs) (hok : e_swok qs = true) (h : e_sw x (fun t => e_E i d kc ks t lv r M Q) qs u) : e_E i d kc ks pc lv (.int x :: r) M Q := by
  have := e_swt (k := fun t => e_E i d kc ks t lv r M Q) (dd := dd) hps hok h
  subst hu
  refine e_st hq ⟨fun z => this.1 (by omega), fun z1 z2 => ?_⟩
  obtain ⟨o, g1, g2⟩ := this.2 z1 (by omega)
  exact ⟨o, by rw [← Array.getElem?_toList]; exact g1, g2⟩
theorem r_get0 {x a b o : Nat} (hq : e_dec i pc = some (.getfield x, 3, a, b, 0)) (ha : a < 20) (hk : (e_fk a).getD b 0 = 0) (g : e_ob M o a) (hp : pc + 3 = pc') (h : e_E i d kc ks pc' lv (.int (gi M o b) :: r) M Q) : e_E i d kc ks pc lv (.ref o :: r) M Q := by
  subst hp
  refine e_st hq ⟨ha, g, ?_⟩
  show e_E i d kc ks (pc + 3) lv (e_gv M o b ((e_fk a).getD b 0) :: r) M Q
  rw [hk]
  exact h
theorem r_get3 {x a b o : Nat} (hq : e_dec i pc = some (.getfield x, 3, a, b, 0)) (ha : a < 20) (hk : (e_fk a).getD b 0 = 3) (g : e_ob M o a) (hp : pc + 3 = pc') (h : e_E i d kc ks pc' lv (.int (gi M o b) :: r) M Q) : e_E i d kc ks pc lv (.ref o :: r) M Q := by
  subst hp
  refine e_st hq ⟨ha, g, ?_⟩
  show e_E i d kc ks (pc + 3) lv (e_gv M o b ((e_fk a).getD b 0) :: r) M Q
  rw [hk]
  exact h
theorem r_get1 {x a b o : Nat} (hq : e_dec i pc = some (.getfield x, 3, a, b, 0)) (ha : a < 20) (hk : (e_fk a).getD b 0 = 1) (g : e_ob M o a) (hp : pc + 3 = pc') (h : e_E i d kc ks pc' lv (.long (gl M o b) :: r) M Q) : e_E i d kc ks pc lv (.ref o :: r) M Q := by
  subst hp
  refine e_st hq ⟨ha, g, ?_⟩
  show e_E i d kc ks (pc + 3) lv (e_gv M o b ((e_fk a).getD b 0) :: r) M Q
  rw [hk]
  exact h
theorem r_get2 {x a b o : Nat} (hq : e_dec i pc = some (.getfield x, 3, a, b, 0)) (ha : a < 20) (hk : (e_fk a).getD b 0 = 2) (g : e_ob M o a) (hp : pc + 3 = pc') (h : e_E i d kc ks pc' lv (.ref (gr M o b) :: r) M Q) : e_E i d kc ks pc lv (.ref o :: r) M Q := by
  subst hp
  refine e_st hq ⟨ha, g, ?_⟩
  show e_E i d kc ks (pc + 3) lv (e_gv M o b ((e_fk a).getD b 0) :: r) M Q
  rw [hk]
  exact h
theorem r_put0 {x a b o : Nat} {y : Int32} (hq : e_dec i pc = some (.putfield x, 3, a, b, 0)) (ha : a < 20) (hk : (e_fk a).getD b 0 = 0) (g : e_ob M o a) (hp : pc + 3 = pc') (h : e_E i d kc ks pc' lv r (e_si M o b y) Q) : e_E i d kc ks pc lv (.int y :: .ref o :: r) M Q := by
  subst hp
  refine e_st hq ⟨ha, ?_⟩
  show e_put _ kc ks (pc + 3) a b lv _ M
  unfold e_put
  rw [hk]
  rw [if_neg (by decide), if_neg (by decide)]
  exact ⟨g, fun z => absurd z (by decide), h⟩
theorem r_put3 {x a b o : Nat} {y : Int32} (hq : e_dec i pc = some (.putfield x, 3, a, b, 0)) (ha : a < 20) (hk : (e_fk a).getD b 0 = 3) (g : e_ob M o a) (gb : y = 0 ∨ y = 1) (hp : pc + 3 = pc') (h : e_E i d kc ks pc' lv r (e_si M o b y) Q) : e_E i d kc ks pc lv (.int y :: .ref o :: r) M Q := by
  subst hp
  refine e_st hq ⟨ha, ?_⟩
  show e_put _ kc ks (pc + 3) a b lv _ M
  unfold e_put
  rw [hk]
  rw [if_neg (by decide), if_neg (by decide)]
  exact ⟨g, fun _ => gb, h⟩
theorem r_put1 {x a b o : Nat} {y : Int64} (hq : e_dec i pc = some (.putfield x, 3, a, b, 0)) (ha : a < 20) (hk : (e_fk a).getD b 0 = 1) (g : e_ob M o a) (hp : pc + 3 = pc') (h : e_E i d kc ks pc' lv r (e_sl M o b y) Q) : e_E i d kc ks pc lv (.long y :: .ref o :: r) M Q := by
  subst hp
  refine e_st hq ⟨ha, ?_⟩
  show e_put _ kc ks (pc + 3) a b lv _ M
  unfold e_put
  rw [hk]
  rw [if_pos rfl]
  exact ⟨g, h⟩
theorem r_put2 {x a b o : Nat} {y : Nat} (hq : e_dec i pc = some (.putfield x, 3, a, b, 0)) (ha : a < 20) (hk : (e_fk a).getD b 0 = 2) (g : e_ob M o a) (hp : pc + 3 = pc') (h : e_E i d kc ks pc' lv r (e_sr M o b y) Q) : e_E i d kc ks pc lv (.ref y :: .ref o :: r) M Q := by
  subst hp
  refine e_st hq ⟨ha, ?_⟩
  show e_put _ kc ks (pc + 3) a b lv _ M
  unfold e_put
  rw [hk]
  rw [if_neg (by decide), if_pos rfl]
  exact ⟨g, h⟩
theorem r_getstatic {x a b : Nat} (hq : e_dec i pc = some (.getstatic x, 3, a, b, 0)) (ha : a = 2 ∨ a = 3 ∨ a = 4) (hp : pc + 3 = pc') (h : e_E i d kc ks pc' lv (.ref a :: r) M Q) : e_E i d kc ks pc lv r M Q := by subst hp; exact e_st hq ⟨ha, h⟩
theorem r_iaload {a : Nat} {y : Int32} (hq : e_dec i pc = some (.iaload, 1, 0, 0, 0)) (g : e_ai M a y) (hp : pc + 1 = pc') (h : e_E i d kc ks pc' lv (.int (gi M a y.toNatClampNeg) :: r) M Q) : e_E i d kc ks pc lv (.int y :: .ref a :: r) M Q := by subst hp; exact e_st hq ⟨g, h⟩
theorem r_baload {a : Nat} {y : Int32} (hq : e_dec i pc = some (.baload, 1, 0, 0, 0)) (g : e_ar M a 22 y) (hp : pc + 1 = pc') (h : e_E i d kc ks pc' lv (.int (gi M a y.toNatClampNeg) :: r) M Q) : e_E i d kc ks pc lv (.int y :: .ref a :: r) M Q := by subst hp; exact e_st hq ⟨g, h⟩
theorem r_laload {a : Nat} {y : Int32} (hq : e_dec i pc = some (.laload, 1, 0, 0, 0)) (g : e_ar M a 21 y) (hp : pc + 1 = pc') (h : e_E i d kc ks pc' lv (.long (gl M a y.toNatClampNeg) :: r) M Q) : e_E i d kc ks pc lv (.int y :: .ref a :: r) M Q := by subst hp; exact e_st hq ⟨g, h⟩
theorem r_aaload {a : Nat} {y : Int32} (hq : e_dec i pc = some (.aaload, 1, 0, 0, 0)) (g : e_ar M a 23 y ∨ e_ar M a 24 y) (hp : pc + 1 = pc') (h : e_E i d kc ks pc' lv (.ref (gr M a y.toNatClampNeg) :: r) M Q) : e_E i d kc ks pc lv (.int y :: .ref a :: r) M Q := by subst hp; exact e_st hq ⟨g, h⟩
theorem r_iastore {a : Nat} {y : Int32} {x : Int32} (hq : e_dec i pc = some (.iastore, 1, 0, 0, 0)) (g : e_ar M a 20 y) (hp : pc + 1 = pc') (h : e_E i d kc ks pc' lv r (e_si M a y.toNatClampNeg x) Q) : e_E i d kc ks pc lv (.int x :: .int y :: .ref a :: r) M Q := by subst hp; exact e_st hq ⟨g, h⟩
theorem r_bastore {a : Nat} {y : Int32} {x : Int32} (hq : e_dec i pc = some (.bastore, 1, 0, 0, 0)) (g : e_ar M a 22 y) (hp : pc + 1 = pc') (h : e_E i d kc ks pc' lv r (e_si M a y.toNatClampNeg (vp_nar .boolean x)) Q) : e_E i d kc ks pc lv (.int x :: .int y :: .ref a :: r) M Q := by subst hp; exact e_st hq ⟨g, h⟩
theorem r_lastore {a : Nat} {y : Int32} {x : Int64} (hq : e_dec i pc = some (.lastore, 1, 0, 0, 0)) (g : e_ar M a 21 y) (hp : pc + 1 = pc') (h : e_E i d kc ks pc' lv r (e_sl M a y.toNatClampNeg x) Q) : e_E i d kc ks pc lv (.long x :: .int y :: .ref a :: r) M Q := by subst hp; exact e_st hq ⟨g, h⟩
theorem r_aastore {a : Nat} {y : Int32} {x : Nat} (hq : e_dec i pc = some (.aastore, 1, 0, 0, 0)) (g : (e_ar M a 23 y ∧ e_ob M x 4) ∨ (e_ar M a 24 y ∧ e_ob M x 8)) (hp : pc + 1 = pc') (h : e_E i d kc ks pc' lv r (e_sr M a y.toNatClampNeg x) Q) : e_E i d kc ks pc lv (.ref x :: .int y :: .ref a :: r) M Q := by subst hp; exact e_st hq ⟨g, h⟩
theorem r_arraylength {a : Nat} (hq : e_dec i pc = some (.arraylength, 1, 0, 0, 0)) (g : (0 < a ∧ a < M.1 ∧ gt M a = 20) ∨ (e_c0 ≤ a ∧ a < M.1 ∧ 20 ≤ gt M a ∧ gt M a ≤ 24)) (hp : pc + 1 = pc') (h : e_E i d kc ks pc' lv (.int (Int32.ofNat (gn M a)) :: r) M Q) : e_E i d kc ks pc lv (.ref a :: r) M Q := by subst hp; exact e_st hq ⟨g, h⟩
theorem r_new {x a n : Nat} (hq : e_dec i pc = some (.new x, 3, a, 0, 0)) (ha : a < 20) (hn : (e_fk a).length = n) (g1 : 1 ≤ kc) (g2 : n ≤ ks) (hp : pc + 3 = pc') (h : e_E i d (kc - 1) (ks - n) pc' lv (.ref M.1 :: r) (e_new M a 0) Q) : e_E i d kc ks pc lv r M Q := by
  subst hp; subst hn
  refine e_st hq ?_
  have h9 : ¬ 91 ≤ a := by omega
  unfold e_ins
  simp only [if_neg h9]
  exact ⟨ha, g1, g2, h⟩
/-- a throw: its kind's number comes as a place to return to -/
theorem r_throw {x a : Nat} (hq : e_dec i pc = some (.new x, 3, a, 0, 0)) (ha : 91 ≤ a) (hb : a ≤ 94) (g1 : 1 ≤ kc) (g2 : 6 ≤ ks) (h : Q (some (.retAddr a)) M) : e_E i d kc ks pc lv [] M Q := by
  refine e_st hq ?_
  unfold e_ins
  simp only [if_pos ha]
  exact ⟨hb, ⟨g1, trivial⟩, g2, h⟩
def e_QX (Q : Int32 → eM → Prop) (X : Nat → eM → Prop) : eQ := fun v M' => (∃ x, v = some (.int x) ∧ Q x M') ∨ ∃ t, v = some (.retAddr t) ∧ X t M'
theorem r_ireturnX {x : Int32} {QI : Int32 → eM → Prop} {X : Nat → eM → Prop} (hq : e_dec i pc = some (.ireturn, 1, 0, 0, 0)) (hr : (e_m i).2.2.2.1 = some .int) (h : QI x M) : e_E i d kc ks pc lv [.int x] M (e_QX QI X) := e_st hq ⟨rfl, Or.inl hr, Or.inl ⟨x, rfl, h⟩⟩
theorem r_newarray {t : ArrayType} {a : Nat} {y : Int32} (hq : e_dec i pc = some (.newarray t, 2, a, 0, 0)) (ha : a = 20 ∨ a = 21 ∨ a = 22) (g0 : ¬ y < 0) (g3 : y.toNatClampNeg ≤ 400000) (g1 : 1 ≤ kc) (g2 : y.toNatClampNeg ≤ ks) (hp : pc + 2 = pc') (h : e_E i d (kc - 1) (ks - y.toNatClampNeg) pc' lv (.ref M.1 :: r) (e_new M a y.toNatClampNeg) Q) : e_E i d kc ks pc lv (.int y :: r) M Q := by subst hp; exact e_st hq ⟨ha, g0, g3, g1, g2, h⟩
theorem r_anewarray {x a : Nat} {y : Int32} (hq : e_dec i pc = some (.anewarray x, 3, a, 0, 0)) (ha : a = 23 ∨ a = 24) (g0 : ¬ y < 0) (g3 : y.toNatClampNeg ≤ 400000) (g1 : 1 ≤ kc) (g2 : y.toNatClampNeg ≤ ks) (hp : pc + 3 = pc') (h : e_E i d (kc - 1) (ks - y.toNatClampNeg) pc' lv (.ref M.1 :: r) (e_new M a y.toNatClampNeg) Q) : e_E i d kc ks pc lv (.int y :: r) M Q := by subst hp; exact e_st hq ⟨ha, g0, g3, g1, g2, h⟩
theorem r_objInit {x b o : Nat} (hq : e_dec i pc = some (.invokespecial x, 3, 900, b, 0)) (g : e_c0 ≤ o) (h8 : (r.map fun v => v.category).sum ≤ 8) (hp : pc + 3 = pc') (h : e_E i d kc ks pc' lv r M Q) : e_E i d kc ks pc lv (.ref o :: r) M Q := by subst hp; exact e_st hq ⟨g, h8, h⟩
/-- calls: the callee's number j, how many na, the arguments av, the stack behind -/
theorem r_callV {x b j na o d' mc ms : Nat} {z : Int} {st as : List Value} (hd : d = d' + 1) (hq : e_dec i pc = some (.invokevirtual x, 3, j, b, z)) (hj : j < 79) (hnf : e_nf j = true) (hz : z.toNat = na) (hst : st.take na = as) (hdr : st.drop na = .ref o :: r) (hl : na ≤ st.length) (hlen : (lg_sl (.ref o :: as.reverse)).length ≤ (e_m j).2.2.1) (h8 : (r.map fun v => v.category).sum ≤ 8) (g : e_ob M o b) (g1 : mc ≤ kc) (g2 : ms ≤ ks) (hp : pc + 3 = pc') (h : e_C j d' mc ms (.ref o :: as.reverse) M (fun v M' => e_E i d (kc - mc) (ks - ms) pc' lv (v.toList ++ r) M' Q)) : e_E i d kc ks pc lv st M Q := by
  subst hp; subst hz; subst hst
  refine e_st hq ⟨by show j < 900; omega, hl, ?_⟩
  show e_r1 (st.drop z.toNat) _
  rw [hdr]
  exact ⟨g, h8, mc, ms, g1, g2, d', hd, hj, hnf, hlen, h⟩
theorem r_arraycopy {x b o1 o2 : Nat} {sp dp n : Int32} (hq : e_dec i pc = some (.invokestatic x, 3, 901, b, 5)) (g : e_cg M o1 sp o2 dp n) (h8 : (r.map fun v => v.category).sum ≤ 8) (hp : pc + 3 = pc') (h : e_E i d kc ks pc' lv r (e_cpy M o1 sp o2 dp n) Q) : e_E i d kc ks pc lv (.int n :: .int dp :: .ref o2 :: .int sp :: .ref o1 :: r) M Q := by subst hp; exact e_st hq ⟨g, h8, h⟩
theorem r_mmax {z b : Nat} {x y : Int32} (hq : e_dec i pc = some (.invokestatic z, 3, 905, b, 2)) (h8 : (r.map fun v => v.category).sum ≤ 8) (hp : pc + 3 = pc') (h : e_E i d kc ks pc' lv (.int (if x < y then y else x) :: r) M Q) : e_E i d kc ks pc lv (.int y :: .int x :: r) M Q := by subst hp; exact e_st hq ⟨h8, h⟩
theorem r_mmin {z b : Nat} {x y : Int32} (hq : e_dec i pc = some (.invokestatic z, 3, 906, b, 2)) (h8 : (r.map fun v => v.category).sum ≤ 8) (hp : pc + 3 = pc') (h : e_E i d kc ks pc' lv (.int (if y < x then y else x) :: r) M Q) : e_E i d kc ks pc lv (.int y :: .int x :: r) M Q := by subst hp; exact e_st hq ⟨h8, h⟩
theorem r_callS {x b j na d' mc ms : Nat} {z : Int} {st as : List Value} (hd : d = d' + 1) (hq : e_dec i pc = some (.invokestatic x, 3, j, b, z)) (hj : j < 79) (hnf : e_nf j = true) (hz : z.toNat = na) (hst : st.take na = as) (hdr : st.drop na = r) (hl : na ≤ st.length) (hlen : (lg_sl as.reverse).length ≤ (e_m j).2.2.1) (h8 : (r.map fun v => v.category).sum ≤ 8) (g1 : mc ≤ kc) (g2 : ms ≤ ks) (hp : pc + 3 = pc') (h : e_C j d' mc ms as.reverse M (fun v M' => e_E i d (kc - mc) (ks - ms) pc' lv (v.toList ++ r) M' Q)) : e_E i d kc ks pc lv st M Q := by
  subst hp; subst hz; subst hst; subst hdr
  refine e_st hq ?_
  have h9 : ¬ j = 901 := by omega
  have h5 : ¬ j = 905 := by omega
  have h6 : ¬ j = 906 := by omega
  unfold e_ins
  simp only [if_neg h9, if_neg h5, if_neg h6]
  exact ⟨by omega, hl, h8, mc, ms, g1, g2, d', hd, hj, hnf, hlen, h⟩
theorem r_callI {x b j na o d' mc ms : Nat} {z : Int} {st as : List Value} (hd : d = d' + 1) (hq : e_dec i pc = some (.invokespecial x, 3, j, b, z)) (hj : j < 79) (hnf : e_nf j = true) (hz : z.toNat = na) (hst : st.take na = as) (hdr : st.drop na = .ref o :: r) (hl : na ≤ st.length) (hlen : (lg_sl (.ref o :: as.reverse)).length ≤ (e_m j).2.2.1) (h8 : (r.map fun v => v.category).sum ≤ 8) (g : e_c0 ≤ o) (g1 : mc ≤ kc) (g2 : ms ≤ ks) (hp : pc + 3 = pc') (h : e_C j d' mc ms (.ref o :: as.reverse) M (fun v M' => e_E i d (kc - mc) (ks - ms) pc' lv (v.toList ++ r) M' Q)) : e_E i d kc ks pc lv st M Q := by
  subst hp; subst hz; subst hst
  refine e_st hq ?_
  have h9 : ¬ j = 900 := by omega
  unfold e_ins
  simp only [if_neg h9]
  refine ⟨by omega, hl, ?_⟩
  rw [hdr]
  exact ⟨g, h8, mc, ms, g1, g2, d', hd, hj, hnf, hlen, h⟩
theorem r_return {QV : eM → Prop} (hq : e_dec i pc = some (.return_, 1, 0, 0, 0)) (hr : (e_m i).2.2.2.1 = none) (h : QV M) : e_E i d kc ks pc lv [] M (e_QV QV) := e_st hq ⟨rfl, hr, rfl, h⟩
theorem r_ireturn {x : Int32} {QI : Int32 → eM → Prop} (hq : e_dec i pc = some (.ireturn, 1, 0, 0, 0)) (hr : (e_m i).2.2.2.1 = some .int) (h : QI x M) : e_E i d kc ks pc lv [.int x] M (e_QI QI) := e_st hq ⟨rfl, Or.inl hr, x, rfl, h⟩
theorem r_zreturn {x : Int32} {QI : Int32 → eM → Prop} (hq : e_dec i pc = some (.ireturn, 1, 0, 0, 0)) (hr : (e_m i).2.2.2.1 = some .boolean) (g : x = 0 ∨ x = 1) (h : QI x M) : e_E i d kc ks pc lv [.int x] M (e_QI QI) := e_st hq ⟨rfl, Or.inr ⟨hr, g⟩, x, rfl, h⟩
theorem r_lreturn {x : Int64} {QL : Int64 → eM → Prop} (hq : e_dec i pc = some (.lreturn, 1, 0, 0, 0)) (hr : (e_m i).2.2.2.1 = some .long) (h : QL x M) : e_E i d kc ks pc lv [.long x] M (e_QL QL) := e_st hq ⟨rfl, hr, x, rfl, h⟩
theorem r_areturn {x : Nat} {QR : Nat → eM → Prop} {t : FieldType} (hq : e_dec i pc = some (.areturn, 1, 0, 0, 0)) (hr : (e_m i).2.2.2.1 = some t) (ht : (∃ n, t = .object n) ∨ ∃ n, t = .array n) (h : QR x M) : e_E i d kc ks pc lv [.ref x] M (e_QR QR) := e_st hq ⟨rfl, by rw [hr]; exact ht.imp (fun ⟨n, e⟩ => ⟨n, by rw [e]⟩) (fun ⟨n, e⟩ => ⟨n, by rw [e]⟩), x, rfl, h⟩

theorem r_callVI {x b j na o d' mc ms nj kc' ks' : Nat} {z : Int} {st as av : List Value} {P : Int32 → eM → Prop} (hd : d = d' + 1) (hq : e_dec i pc = some (.invokevirtual x, 3, j, b, z)) (hj : j < 79) (hnf : e_nf j = true) (hz : z.toNat = na) (hst : st.take na = as) (hdr : st.drop na = .ref o :: r) (hl : na ≤ st.length) (hav : .ref o :: as.reverse = av) (hL : (e_m j).2.2.1 = nj) (hlen : (lg_sl av).length ≤ nj) (h8 : (r.map fun v => v.category).sum ≤ 8) (g : e_ob M o b) (g1 : mc ≤ kc) (g2 : ms ≤ ks) (hk1 : kc - mc = kc') (hk2 : ks - ms = ks') (hp : pc + 3 = pc') (h : e_CI j d' mc ms av M P) (k : ∀ (x : Int32) (M : eM), P x M → e_E i d kc' ks' pc' lv (.int x :: r) M Q) : e_E i d kc ks pc lv st M Q := by
  subst hav; subst hL; subst hk1; subst hk2
  exact r_callV hd hq hj hnf hz hst hdr hl hlen h8 g g1 g2 hp (e_E.post h (by rintro v M1 ⟨x, rfl, g⟩; exact k _ _ g))
theorem r_callSI {x b j na d' mc ms nj kc' ks' : Nat} {z : Int} {st as av : List Value} {P : Int32 → eM → Prop} (hd : d = d' + 1) (hq : e_dec i pc = some (.invokestatic x, 3, j, b, z)) (hj : j < 79) (hnf : e_nf j = true) (hz : z.toNat = na) (hst : st.take na = as) (hdr : st.drop na = r) (hl : na ≤ st.length) (hav : as.reverse = av) (hL : (e_m j).2.2.1 = nj) (hlen : (lg_sl av).length ≤ nj) (h8 : (r.map fun v => v.category).sum ≤ 8) (g1 : mc ≤ kc) (g2 : ms ≤ ks) (hk1 : kc - mc = kc') (hk2 : ks - ms = ks') (hp : pc + 3 = pc') (h : e_CI j d' mc ms av M P) (k : ∀ (x : Int32) (M : eM), P x M → e_E i d kc' ks' pc' lv (.int x :: r) M Q) : e_E i d kc ks pc lv st M Q := by
  subst hav; subst hL; subst hk1; subst hk2
  exact r_callS hd hq hj hnf hz hst hdr hl hlen h8 g1 g2 hp (e_E.post h (by rintro v M1 ⟨x, rfl, g⟩; exact k _ _ g))
theorem r_callII {x b j na o d' mc ms nj kc' ks' : Nat} {z : Int} {st as av : List Value} {P : Int32 → eM → Prop} (hd : d = d' + 1) (hq : e_dec i pc = some (.invokespecial x, 3, j, b, z)) (hj : j < 79) (hnf : e_nf j = true) (hz : z.toNat = na) (hst : st.take na = as) (hdr : st.drop na = .ref o :: r) (hl : na ≤ st.length) (hav : .ref o :: as.reverse = av) (hL : (e_m j).2.2.1 = nj) (hlen : (lg_sl av).length ≤ nj) (h8 : (r.map fun v => v.category).sum ≤ 8) (g : e_c0 ≤ o) (g1 : mc ≤ kc) (g2 : ms ≤ ks) (hk1 : kc - mc = kc') (hk2 : ks - ms = ks') (hp : pc + 3 = pc') (h : e_CI j d' mc ms av M P) (k : ∀ (x : Int32) (M : eM), P x M → e_E i d kc' ks' pc' lv (.int x :: r) M Q) : e_E i d kc ks pc lv st M Q := by
  subst hav; subst hL; subst hk1; subst hk2
  exact r_callI hd hq hj hnf hz hst hdr hl hlen h8 g g1 g2 hp (e_E.post h (by rintro v M1 ⟨x, rfl, g⟩; exact k _ _ g))
theorem r_callVL {x b j na o d' mc ms nj kc' ks' : Nat} {z : Int} {st as av : List Value} {P : Int64 → eM → Prop} (hd : d = d' + 1) (hq : e_dec i pc = some (.invokevirtual x, 3, j, b, z)) (hj : j < 79) (hnf : e_nf j = true) (hz : z.toNat = na) (hst : st.take na = as) (hdr : st.drop na = .ref o :: r) (hl : na ≤ st.length) (hav : .ref o :: as.reverse = av) (hL : (e_m j).2.2.1 = nj) (hlen : (lg_sl av).length ≤ nj) (h8 : (r.map fun v => v.category).sum ≤ 8) (g : e_ob M o b) (g1 : mc ≤ kc) (g2 : ms ≤ ks) (hk1 : kc - mc = kc') (hk2 : ks - ms = ks') (hp : pc + 3 = pc') (h : e_CL j d' mc ms av M P) (k : ∀ (x : Int64) (M : eM), P x M → e_E i d kc' ks' pc' lv (.long x :: r) M Q) : e_E i d kc ks pc lv st M Q := by
  subst hav; subst hL; subst hk1; subst hk2
  exact r_callV hd hq hj hnf hz hst hdr hl hlen h8 g g1 g2 hp (e_E.post h (by rintro v M1 ⟨x, rfl, g⟩; exact k _ _ g))
theorem r_callSL {x b j na d' mc ms nj kc' ks' : Nat} {z : Int} {st as av : List Value} {P : Int64 → eM → Prop} (hd : d = d' + 1) (hq : e_dec i pc = some (.invokestatic x, 3, j, b, z)) (hj : j < 79) (hnf : e_nf j = true) (hz : z.toNat = na) (hst : st.take na = as) (hdr : st.drop na = r) (hl : na ≤ st.length) (hav : as.reverse = av) (hL : (e_m j).2.2.1 = nj) (hlen : (lg_sl av).length ≤ nj) (h8 : (r.map fun v => v.category).sum ≤ 8) (g1 : mc ≤ kc) (g2 : ms ≤ ks) (hk1 : kc - mc = kc') (hk2 : ks - ms = ks') (hp : pc + 3 = pc') (h : e_CL j d' mc ms av M P) (k : ∀ (x : Int64) (M : eM), P x M → e_E i d kc' ks' pc' lv (.long x :: r) M Q) : e_E i d kc ks pc lv st M Q := by
  subst hav; subst hL; subst hk1; subst hk2
  exact r_callS hd hq hj hnf hz hst hdr hl hlen h8 g1 g2 hp (e_E.post h (by rintro v M1 ⟨x, rfl, g⟩; exact k _ _ g))
theorem r_callIL {x b j na o d' mc ms nj kc' ks' : Nat} {z : Int} {st as av : List Value} {P : Int64 → eM → Prop} (hd : d = d' + 1) (hq : e_dec i pc = some (.invokespecial x, 3, j, b, z)) (hj : j < 79) (hnf : e_nf j = true) (hz : z.toNat = na) (hst : st.take na = as) (hdr : st.drop na = .ref o :: r) (hl : na ≤ st.length) (hav : .ref o :: as.reverse = av) (hL : (e_m j).2.2.1 = nj) (hlen : (lg_sl av).length ≤ nj) (h8 : (r.map fun v => v.category).sum ≤ 8) (g : e_c0 ≤ o) (g1 : mc ≤ kc) (g2 : ms ≤ ks) (hk1 : kc - mc = kc') (hk2 : ks - ms = ks') (hp : pc + 3 = pc') (h : e_CL j d' mc ms av M P) (k : ∀ (x : Int64) (M : eM), P x M → e_E i d kc' ks' pc' lv (.long x :: r) M Q) : e_E i d kc ks pc lv st M Q := by
  subst hav; subst hL; subst hk1; subst hk2
  exact r_callI hd hq hj hnf hz hst hdr hl hlen h8 g g1 g2 hp (e_E.post h (by rintro v M1 ⟨x, rfl, g⟩; exact k _ _ g))
theorem r_callVR {x b j na o d' mc ms nj kc' ks' : Nat} {z : Int} {st as av : List Value} {P : Nat → eM → Prop} (hd : d = d' + 1) (hq : e_dec i pc = some (.invokevirtual x, 3, j, b, z)) (hj : j < 79) (hnf : e_nf j = true) (hz : z.toNat = na) (hst : st.take na = as) (hdr : st.drop na = .ref o :: r) (hl : na ≤ st.length) (hav : .ref o :: as.reverse = av) (hL : (e_m j).2.2.1 = nj) (hlen : (lg_sl av).length ≤ nj) (h8 : (r.map fun v => v.category).sum ≤ 8) (g : e_ob M o b) (g1 : mc ≤ kc) (g2 : ms ≤ ks) (hk1 : kc - mc = kc') (hk2 : ks - ms = ks') (hp : pc + 3 = pc') (h : e_CR j d' mc ms av M P) (k : ∀ (x : Nat) (M : eM), P x M → e_E i d kc' ks' pc' lv (.ref x :: r) M Q) : e_E i d kc ks pc lv st M Q := by
  subst hav; subst hL; subst hk1; subst hk2
  exact r_callV hd hq hj hnf hz hst hdr hl hlen h8 g g1 g2 hp (e_E.post h (by rintro v M1 ⟨x, rfl, g⟩; exact k _ _ g))
theorem r_callSR {x b j na d' mc ms nj kc' ks' : Nat} {z : Int} {st as av : List Value} {P : Nat → eM → Prop} (hd : d = d' + 1) (hq : e_dec i pc = some (.invokestatic x, 3, j, b, z)) (hj : j < 79) (hnf : e_nf j = true) (hz : z.toNat = na) (hst : st.take na = as) (hdr : st.drop na = r) (hl : na ≤ st.length) (hav : as.reverse = av) (hL : (e_m j).2.2.1 = nj) (hlen : (lg_sl av).length ≤ nj) (h8 : (r.map fun v => v.category).sum ≤ 8) (g1 : mc ≤ kc) (g2 : ms ≤ ks) (hk1 : kc - mc = kc') (hk2 : ks - ms = ks') (hp : pc + 3 = pc') (h : e_CR j d' mc ms av M P) (k : ∀ (x : Nat) (M : eM), P x M → e_E i d kc' ks' pc' lv (.ref x :: r) M Q) : e_E i d kc ks pc lv st M Q := by
  subst hav; subst hL; subst hk1; subst hk2
  exact r_callS hd hq hj hnf hz hst hdr hl hlen h8 g1 g2 hp (e_E.post h (by rintro v M1 ⟨x, rfl, g⟩; exact k _ _ g))
theorem r_callIR {x b j na o d' mc ms nj kc' ks' : Nat} {z : Int} {st as av : List Value} {P : Nat → eM → Prop} (hd : d = d' + 1) (hq : e_dec i pc = some (.invokespecial x, 3, j, b, z)) (hj : j < 79) (hnf : e_nf j = true) (hz : z.toNat = na) (hst : st.take na = as) (hdr : st.drop na = .ref o :: r) (hl : na ≤ st.length) (hav : .ref o :: as.reverse = av) (hL : (e_m j).2.2.1 = nj) (hlen : (lg_sl av).length ≤ nj) (h8 : (r.map fun v => v.category).sum ≤ 8) (g : e_c0 ≤ o) (g1 : mc ≤ kc) (g2 : ms ≤ ks) (hk1 : kc - mc = kc') (hk2 : ks - ms = ks') (hp : pc + 3 = pc') (h : e_CR j d' mc ms av M P) (k : ∀ (x : Nat) (M : eM), P x M → e_E i d kc' ks' pc' lv (.ref x :: r) M Q) : e_E i d kc ks pc lv st M Q := by
  subst hav; subst hL; subst hk1; subst hk2
  exact r_callI hd hq hj hnf hz hst hdr hl hlen h8 g g1 g2 hp (e_E.post h (by rintro v M1 ⟨x, rfl, g⟩; exact k _ _ g))
theorem r_callVV {x b j na o d' mc ms nj kc' ks' : Nat} {z : Int} {st as av : List Value} {P : eM → Prop} (hd : d = d' + 1) (hq : e_dec i pc = some (.invokevirtual x, 3, j, b, z)) (hj : j < 79) (hnf : e_nf j = true) (hz : z.toNat = na) (hst : st.take na = as) (hdr : st.drop na = .ref o :: r) (hl : na ≤ st.length) (hav : .ref o :: as.reverse = av) (hL : (e_m j).2.2.1 = nj) (hlen : (lg_sl av).length ≤ nj) (h8 : (r.map fun v => v.category).sum ≤ 8) (g : e_ob M o b) (g1 : mc ≤ kc) (g2 : ms ≤ ks) (hk1 : kc - mc = kc') (hk2 : ks - ms = ks') (hp : pc + 3 = pc') (h : e_CV j d' mc ms av M P) (k : ∀ (M : eM), P M → e_E i d kc' ks' pc' lv (r) M Q) : e_E i d kc ks pc lv st M Q := by
  subst hav; subst hL; subst hk1; subst hk2
  exact r_callV hd hq hj hnf hz hst hdr hl hlen h8 g g1 g2 hp (e_E.post h (by rintro v M1 ⟨rfl, g⟩; exact k _ g))
theorem r_callSV {x b j na d' mc ms nj kc' ks' : Nat} {z : Int} {st as av : List Value} {P : eM → Prop} (hd : d = d' + 1) (hq : e_dec i pc = some (.invokestatic x, 3, j, b, z)) (hj : j < 79) (hnf : e_nf j = true) (hz : z.toNat = na) (hst : st.take na = as) (hdr : st.drop na = r) (hl : na ≤ st.length) (hav : as.reverse = av) (hL : (e_m j).2.2.1 = nj) (hlen : (lg_sl av).length ≤ nj) (h8 : (r.map fun v => v.category).sum ≤ 8) (g1 : mc ≤ kc) (g2 : ms ≤ ks) (hk1 : kc - mc = kc') (hk2 : ks - ms = ks') (hp : pc + 3 = pc') (h : e_CV j d' mc ms av M P) (k : ∀ (M : eM), P M → e_E i d kc' ks' pc' lv (r) M Q) : e_E i d kc ks pc lv st M Q := by
  subst hav; subst hL; subst hk1; subst hk2
  exact r_callS hd hq hj hnf hz hst hdr hl hlen h8 g1 g2 hp (e_E.post h (by rintro v M1 ⟨rfl, g⟩; exact k _ g))
theorem r_callIV {x b j na o d' mc ms nj kc' ks' : Nat} {z : Int} {st as av : List Value} {P : eM → Prop} (hd : d = d' + 1) (hq : e_dec i pc = some (.invokespecial x, 3, j, b, z)) (hj : j < 79) (hnf : e_nf j = true) (hz : z.toNat = na) (hst : st.take na = as) (hdr : st.drop na = .ref o :: r) (hl : na ≤ st.length) (hav : .ref o :: as.reverse = av) (hL : (e_m j).2.2.1 = nj) (hlen : (lg_sl av).length ≤ nj) (h8 : (r.map fun v => v.category).sum ≤ 8) (g : e_c0 ≤ o) (g1 : mc ≤ kc) (g2 : ms ≤ ks) (hk1 : kc - mc = kc') (hk2 : ks - ms = ks') (hp : pc + 3 = pc') (h : e_CV j d' mc ms av M P) (k : ∀ (M : eM), P M → e_E i d kc' ks' pc' lv (r) M Q) : e_E i d kc ks pc lv st M Q := by
  subst hav; subst hL; subst hk1; subst hk2
  exact r_callI hd hq hj hnf hz hst hdr hl hlen h8 g g1 g2 hp (e_E.post h (by rintro v M1 ⟨rfl, g⟩; exact k _ g))
end ROW
