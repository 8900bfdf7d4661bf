/-! ===== THE MACHINE OF NUMBERED CELLS: cells have numbers (0 is null; 1 .. 7 stand for old int arrays that nobody writes; from 8 on all that is made) ===== -/
/-- the next number; of each cell its kind and length; ints, longs, references by cell and place -/
abbrev eM : Type := Nat × (Nat → Nat × Nat) × (Nat → Nat → Int32) × (Nat → Nat → Int64) × (Nat → Nat → Nat)
abbrev eL : Type := List (Nat × Value)
def e_c0 : Nat := 8
def e_u {α : Type} (f : Nat → Nat → α) (a j : Nat) (x : α) : Nat → Nat → α := fun b k => if b = a ∧ k = j then x else f b k
def e_si (M : eM) (a j : Nat) (x : Int32) : eM := (M.1, M.2.1, e_u M.2.2.1 a j x, M.2.2.2.1, M.2.2.2.2)
def e_sl (M : eM) (a j : Nat) (x : Int64) : eM := (M.1, M.2.1, M.2.2.1, e_u M.2.2.2.1 a j x, M.2.2.2.2)
def e_sr (M : eM) (a j : Nat) (x : Nat) : eM := (M.1, M.2.1, M.2.2.1, M.2.2.2.1, e_u M.2.2.2.2 a j x)
def e_new (M : eM) (t n : Nat) : eM := (M.1 + 1, va_up M.2.1 M.1 (t, n), va_up M.2.2.1 M.1 (fun _ => 0), va_up M.2.2.2.1 M.1 (fun _ => 0), va_up M.2.2.2.2 M.1 (fun _ => 0))
def e_fk (t : Nat) : List Nat := e_fks.getD t []
/-- a field's or a place's content, by its kind -/
def e_gv (M : eM) (a j kind : Nat) : Value := if kind = 1 then .long (M.2.2.2.1 a j) else if kind = 2 then .ref (M.2.2.2.2 a j) else .int (M.2.2.1 a j)
/-- an object of a class -/
def e_ob (M : eM) (o ci : Nat) : Prop := e_c0 ≤ o ∧ o < M.1 ∧ (M.2.1 o).1 = ci
/-- an array of a kind that may be written -/
def e_ar (M : eM) (a t : Nat) (i : Int32) : Prop := e_c0 ≤ a ∧ a < M.1 ∧ (M.2.1 a).1 = t ∧ vp_in i (M.2.1 a).2
/-- an int array, old ones too -/
def e_ai (M : eM) (a : Nat) (i : Int32) : Prop := 0 < a ∧ a < M.1 ∧ (M.2.1 a).1 = 20 ∧ vp_in i (M.2.1 a).2
def e_i1 (st : List Value) (k : Int32 → List Value → Prop) : Prop := match st with | .int x :: r => k x r | _ => False
def e_i2 (st : List Value) (k : Int32 → Int32 → List Value → Prop) : Prop := match st with | .int y :: .int x :: r => k x y r | _ => False
def e_l1 (st : List Value) (k : Int64 → List Value → Prop) : Prop := match st with | .long x :: r => k x r | _ => False
def e_l2 (st : List Value) (k : Int64 → Int64 → List Value → Prop) : Prop := match st with | .long y :: .long x :: r => k x y r | _ => False
def e_li (st : List Value) (k : Int64 → Int32 → List Value → Prop) : Prop := match st with | .int y :: .long x :: r => k x y r | _ => False
def e_r1 (st : List Value) (k : Nat → List Value → Prop) : Prop := match st with | .ref a :: r => k a r | _ => False
def e_ri (st : List Value) (k : Nat → Int32 → List Value → Prop) : Prop := match st with | .int i :: .ref a :: r => k a i r | _ => False
def e_rii (st : List Value) (k : Nat → Int32 → Int32 → List Value → Prop) : Prop := match st with | .int x :: .int i :: .ref a :: r => k a i x r | _ => False
def e_ril (st : List Value) (k : Nat → Int32 → Int64 → List Value → Prop) : Prop := match st with | .long x :: .int i :: .ref a :: r => k a i x r | _ => False
def e_rir (st : List Value) (k : Nat → Int32 → Nat → List Value → Prop) : Prop := match st with | .ref x :: .int i :: .ref a :: r => k a i x r | _ => False
def e_rpi (st : List Value) (k : Nat → Int32 → List Value → Prop) : Prop := match st with | .int x :: .ref a :: r => k a x r | _ => False
def e_rpl (st : List Value) (k : Nat → Int64 → List Value → Prop) : Prop := match st with | .long x :: .ref a :: r => k a x r | _ => False
def e_rpr (st : List Value) (k : Nat → Nat → List Value → Prop) : Prop := match st with | .ref x :: .ref a :: r => k a x r | _ => False
theorem e_i1_inv {st : List Value} {k} (h : e_i1 st k) : ∃ x r, st = .int x :: r ∧ k x r := by unfold e_i1 at h; split at h <;> first | exact ⟨_, _, rfl, h⟩ | exact h.elim
theorem e_i2_inv {st : List Value} {k} (h : e_i2 st k) : ∃ x y r, st = .int y :: .int x :: r ∧ k x y r := by unfold e_i2 at h; split at h <;> first | exact ⟨_, _, _, rfl, h⟩ | exact h.elim
theorem e_l1_inv {st : List Value} {k} (h : e_l1 st k) : ∃ x r, st = .long x :: r ∧ k x r := by unfold e_l1 at h; split at h <;> first | exact ⟨_, _, rfl, h⟩ | exact h.elim
theorem e_l2_inv {st : List Value} {k} (h : e_l2 st k) : ∃ x y r, st = .long y :: .long x :: r ∧ k x y r := by unfold e_l2 at h; split at h <;> first | exact ⟨_, _, _, rfl, h⟩ | exact h.elim
theorem e_li_inv {st : List Value} {k} (h : e_li st k) : ∃ x y r, st = .int y :: .long x :: r ∧ k x y r := by unfold e_li at h; split at h <;> first | exact ⟨_, _, _, rfl, h⟩ | exact h.elim
theorem e_r1_inv {st : List Value} {k} (h : e_r1 st k) : ∃ x r, st = .ref x :: r ∧ k x r := by unfold e_r1 at h; split at h <;> first | exact ⟨_, _, rfl, h⟩ | exact h.elim
theorem e_ri_inv {st : List Value} {k} (h : e_ri st k) : ∃ a i r, st = .int i :: .ref a :: r ∧ k a i r := by unfold e_ri at h; split at h <;> first | exact ⟨_, _, _, rfl, h⟩ | exact h.elim
theorem e_rii_inv {st : List Value} {k} (h : e_rii st k) : ∃ a i x r, st = .int x :: .int i :: .ref a :: r ∧ k a i x r := by unfold e_rii at h; split at h <;> first | exact ⟨_, _, _, _, rfl, h⟩ | exact h.elim
theorem e_ril_inv {st : List Value} {k} (h : e_ril st k) : ∃ a i x r, st = .long x :: .int i :: .ref a :: r ∧ k a i x r := by unfold e_ril at h; split at h <;> first | exact ⟨_, _, _, _, rfl, h⟩ | exact h.elim
theorem e_rir_inv {st : List Value} {k} (h : e_rir st k) : ∃ a i x r, st = .ref x :: .int i :: .ref a :: r ∧ k a i x r := by unfold e_rir at h; split at h <;> first | exact ⟨_, _, _, _, rfl, h⟩ | exact h.elim
theorem e_rpi_inv {st : List Value} {k} (h : e_rpi st k) : ∃ a x r, st = .int x :: .ref a :: r ∧ k a x r := by unfold e_rpi at h; split at h <;> first | exact ⟨_, _, _, rfl, h⟩ | exact h.elim
theorem e_rpl_inv {st : List Value} {k} (h : e_rpl st k) : ∃ a x r, st = .long x :: .ref a :: r ∧ k a x r := by unfold e_rpl at h; split at h <;> first | exact ⟨_, _, _, rfl, h⟩ | exact h.elim
theorem e_rpr_inv {st : List Value} {k} (h : e_rpr st k) : ∃ a x r, st = .ref x :: .ref a :: r ∧ k a x r := by unfold e_rpr at h; split at h <;> first | exact ⟨_, _, _, rfl, h⟩ | exact h.elim
/-- a local, read -/
def e_lk (lv : eL) (j : Nat) (k : Value → Prop) : Prop := match lv.lookup j with | some v => k v | none => False
theorem e_lk_inv {lv : eL} {j : Nat} {k} (h : e_lk lv j k) : ∃ v, lv.lookup j = some v ∧ k v := by unfold e_lk at h; split at h <;> first | exact ⟨_, by assumption, h⟩ | exact h.elim
def e_ld (lv : eL) (j : Nat) (p : Value → Bool) (k : Value → Prop) : Prop := e_lk lv j (fun v => p v = true ∧ k v)
def e_isI : Value → Bool | .int _ => true | _ => false
def e_isL : Value → Bool | .long _ => true | _ => false
def e_isR : Value → Bool | .ref _ => true | _ => false
def e_s1 (lv : eL) (j : Nat) (v : Value) : eL := (j, v) :: lv.filter (fun q => !(q.1 == j) && !(q.1 + 1 == j && q.2.category == 2))
def e_s2 (lv : eL) (j : Nat) (v : Value) : eL := (j, v) :: lv.filter (fun q => !(q.1 == j) && (!(q.1 == j + 1) && !(q.1 + 1 == j && q.2.category == 2)))
/-- what goes on: cells and slots that are left, place, locals, stack, memory -/
abbrev eK : Type := Nat → Nat → Nat → eL → List Value → eM → Prop
abbrev eQ : Type := Option Value → eM → Prop
abbrev eI : Type := Instr × Nat × Nat × Nat × Int
def e_put (k : eK) (kc ks pc : Nat) (a b : Nat) (lv : eL) (st : List Value) (M : eM) : Prop :=
  if (e_fk a).getD b 0 = 1 then e_rpl st fun o x r => e_ob M o a ∧ k kc ks pc lv r (e_sl M o b x)
  else if (e_fk a).getD b 0 = 2 then e_rpr st fun o x r => e_ob M o a ∧ k kc ks pc lv r (e_sr M o b x)
  else e_rpi st fun o x r => e_ob M o a ∧ ((e_fk a).getD b 0 = 3 → x = 0 ∨ x = 1) ∧ k kc ks pc lv r (e_si M o b x)
/-- a call: the callee's number, its budget, its arguments, the memory, what is wanted behind it -/
abbrev eC : Type := Nat → Nat → Nat → List Value → eM → eQ → Prop
def e_cal (k : eK) (cal : eC) (j kc ks pc : Nat) (av : List Value) (lv : eL) (rest : List Value) (M : eM) : Prop :=
  (rest.map fun v => v.category).sum ≤ 8 ∧ ∃ mc ms : Nat, mc ≤ kc ∧ ms ≤ ks ∧ cal j mc ms av M (fun v M' => k (kc - mc) (ks - ms) pc lv (v.toList ++ rest) M')
/-- arraycopy of ints -/
def e_cp (st : List Value) (k : Nat → Int32 → Nat → Int32 → Int32 → List Value → Prop) : Prop := match st with | .int n :: .int dp :: .ref b :: .int sp :: .ref a :: r => k a sp b dp n r | _ => False
theorem e_cp_inv {st : List Value} {k} (h : e_cp st k) : ∃ a sp b dp n r, st = .int n :: .int dp :: .ref b :: .int sp :: .ref a :: r ∧ k a sp b dp n r := by unfold e_cp at h; split at h <;> first | exact ⟨_, _, _, _, _, _, rfl, h⟩ | exact h.elim
def e_cg (M : eM) (a : Nat) (sp : Int32) (b : Nat) (dp n : Int32) : Prop := (e_c0 ≤ a ∧ a < M.1 ∧ (M.2.1 a).1 = 20) ∧ (e_c0 ≤ b ∧ b < M.1 ∧ (M.2.1 b).1 = 20) ∧ ¬ sp < 0 ∧ ¬ dp < 0 ∧ ¬ n < 0 ∧ sp.toNatClampNeg + n.toNatClampNeg ≤ (M.2.1 a).2 ∧ dp.toNatClampNeg + n.toNatClampNeg ≤ (M.2.1 b).2
def e_cpy (M : eM) (a : Nat) (sp : Int32) (b : Nat) (dp n : Int32) : eM := (M.1, M.2.1, va_up M.2.2.1 b (va_cpy (M.2.2.1 a) (M.2.2.1 b) sp.toNatClampNeg dp.toNatClampNeg n.toNatClampNeg), M.2.2.2.1, M.2.2.2.2)
def e_tgt (pc : Nat) (o : Int) : Nat := ((pc : Int) + o).toNat
/-- what an instruction does, apart from returns -/
def e_ins (L : Nat) (k : eK) (cal : eC) (Q : eQ) (ret : Option FieldType) (kc ks pc : Nat) (q : eI) (lv : eL) (st : List Value) (M : eM) : Prop :=
  match q.1 with
  | .iconst n => k kc ks (pc + 1) lv (.int (Int32.ofInt n) :: st) M
  | .bipush n => k kc ks (pc + 2) lv (.int (Int8.ofInt n).toInt32 :: st) M
  | .sipush n => k kc ks (pc + 3) lv (.int (Int16.ofInt n).toInt32 :: st) M
  | .lconst n => k kc ks (pc + 1) lv (.long (Int64.ofNat (n : Nat)) :: st) M
  | .ldc _ => q.2.2.1 = 0 ∧ k kc ks (pc + 2) lv (.int (Int32.ofInt q.2.2.2.2) :: st) M
  | .ldc_w _ => q.2.2.1 = 0 ∧ k kc ks (pc + 3) lv (.int (Int32.ofInt q.2.2.2.2) :: st) M
  | .ldc2_w _ => k kc ks (pc + 3) lv (.long (Int64.ofInt q.2.2.2.2) :: st) M
  | .aconst_null => k kc ks (pc + 1) lv (.ref 0 :: st) M
  | .iload_n j => e_ld lv j e_isI fun v => k kc ks (pc + 1) lv (v :: st) M
  | .iload j => e_ld lv j e_isI fun v => k kc ks (pc + 2) lv (v :: st) M
  | .lload_n j => e_ld lv j e_isL fun v => k kc ks (pc + 1) lv (v :: st) M
  | .lload j => e_ld lv j e_isL fun v => k kc ks (pc + 2) lv (v :: st) M
  | .aload_n j => e_ld lv j e_isR fun v => k kc ks (pc + 1) lv (v :: st) M
  | .aload j => e_ld lv j e_isR fun v => k kc ks (pc + 2) lv (v :: st) M
  | .istore_n j => e_i1 st fun x r => (j : Nat) < L ∧ k kc ks (pc + 1) (e_s1 lv j (.int x)) r M
  | .istore j => e_i1 st fun x r => j < L ∧ k kc ks (pc + 2) (e_s1 lv j (.int x)) r M
  | .lstore_n j => e_l1 st fun x r => (j : Nat) + 1 < L ∧ k kc ks (pc + 1) (e_s2 lv j (.long x)) r M
  | .lstore j => e_l1 st fun x r => j + 1 < L ∧ k kc ks (pc + 2) (e_s2 lv j (.long x)) r M
  | .astore_n j => e_r1 st fun x r => (j : Nat) < L ∧ k kc ks (pc + 1) (e_s1 lv j (.ref x)) r M
  | .astore j => e_r1 st fun x r => j < L ∧ k kc ks (pc + 2) (e_s1 lv j (.ref x)) r M
  | .iinc j n => e_lk lv j fun v => match v with | .int x => j < L ∧ k kc ks (pc + 3) (e_s1 lv j (.int (x + Int32.ofInt n))) st M | _ => False
  | .iadd => e_i2 st fun x y r => k kc ks (pc + 1) lv (.int (x + y) :: r) M
  | .isub => e_i2 st fun x y r => k kc ks (pc + 1) lv (.int (x - y) :: r) M
  | .imul => e_i2 st fun x y r => k kc ks (pc + 1) lv (.int (x * y) :: r) M
  | .idiv => e_i2 st fun x y r => ¬ y = 0 ∧ k kc ks (pc + 1) lv (.int (x / y) :: r) M
  | .irem => e_i2 st fun x y r => ¬ y = 0 ∧ k kc ks (pc + 1) lv (.int (x - x / y * y) :: r) M
  | .ineg => e_i1 st fun x r => k kc ks (pc + 1) lv (.int (-x) :: r) M
  | .iand => e_i2 st fun x y r => k kc ks (pc + 1) lv (.int (x &&& y) :: r) M
  | .ior => e_i2 st fun x y r => k kc ks (pc + 1) lv (.int (x ||| y) :: r) M
  | .ixor => e_i2 st fun x y r => k kc ks (pc + 1) lv (.int (x ^^^ y) :: r) M
  | .ishl => e_i2 st fun x y r => k kc ks (pc + 1) lv (.int (x <<< (y &&& 31)) :: r) M
  | .ishr => e_i2 st fun x y r => k kc ks (pc + 1) lv (.int (x >>> (y &&& 31)) :: r) M
  | .iushr => e_i2 st fun x y r => k kc ks (pc + 1) lv (.int (x.toUInt32 >>> (y.toUInt32 &&& Int32.toUInt32 31)).toInt32 :: r) M
  | .ladd => e_l2 st fun x y r => k kc ks (pc + 1) lv (.long (x + y) :: r) M
  | .land => e_l2 st fun x y r => k kc ks (pc + 1) lv (.long (x &&& y) :: r) M
  | .lor => e_l2 st fun x y r => k kc ks (pc + 1) lv (.long (x ||| y) :: r) M
  | .lxor => e_l2 st fun x y r => k kc ks (pc + 1) lv (.long (x ^^^ y) :: r) M
  | .lshl => e_li st fun x y r => k kc ks (pc + 1) lv (.long (x <<< (y.toInt64 &&& 63)) :: r) M
  | .lshr => e_li st fun x y r => k kc ks (pc + 1) lv (.long (x >>> (y.toInt64 &&& 63)) :: r) M
  | .lushr => e_li st fun x y r => k kc ks (pc + 1) lv (.long (x.toUInt64 >>> (y.toInt64.toUInt64 &&& Int64.toUInt64 63)).toInt64 :: r) M
  | .lcmp => e_l2 st fun x y r => k kc ks (pc + 1) lv (.int (lg_cmp x y) :: r) M
  | .i2l => e_i1 st fun x r => k kc ks (pc + 1) lv (.long x.toInt64 :: r) M
  | .l2i => e_l1 st fun x r => k kc ks (pc + 1) lv (.int x.toInt32 :: r) M
  | .i2b => e_i1 st fun x r => k kc ks (pc + 1) lv (.int x.toInt8.toInt32 :: r) M
  | .i2s => e_i1 st fun x r => k kc ks (pc + 1) lv (.int x.toInt16.toInt32 :: r) M
  | .dup => match st with | v :: r => v.category = 1 ∧ k kc ks (pc + 1) lv (v :: v :: r) M | _ => False
  | .dup2 => match st with | v :: u :: r => v.category = 1 ∧ u.category = 1 ∧ k kc ks (pc + 1) lv (v :: u :: v :: u :: r) M | _ => False
  | .pop => match st with | v :: r => v.category = 1 ∧ k kc ks (pc + 1) lv r M | _ => False
  | .goto _ => k kc ks q.2.2.1 lv st M
  | .ifCond .eq _ => e_i1 st fun x r => (x = 0 → k kc ks q.2.2.1 lv r M) ∧ (¬ x = 0 → k kc ks (pc + 3) lv r M)
  | .ifCond .ne _ => e_i1 st fun x r => (¬ x = 0 → k kc ks q.2.2.1 lv r M) ∧ (x = 0 → k kc ks (pc + 3) lv r M)
  | .ifCond .lt _ => e_i1 st fun x r => (x < 0 → k kc ks q.2.2.1 lv r M) ∧ (¬ x < 0 → k kc ks (pc + 3) lv r M)
  | .ifCond .ge _ => e_i1 st fun x r => (0 ≤ x → k kc ks q.2.2.1 lv r M) ∧ (¬ 0 ≤ x → k kc ks (pc + 3) lv r M)
  | .ifCond .gt _ => e_i1 st fun x r => (0 < x → k kc ks q.2.2.1 lv r M) ∧ (¬ 0 < x → k kc ks (pc + 3) lv r M)
  | .ifCond .le _ => e_i1 st fun x r => (x ≤ 0 → k kc ks q.2.2.1 lv r M) ∧ (¬ x ≤ 0 → k kc ks (pc + 3) lv r M)
  | .if_icmp .eq _ => e_i2 st fun x y r => (x = y → k kc ks q.2.2.1 lv r M) ∧ (¬ x = y → k kc ks (pc + 3) lv r M)
  | .if_icmp .ne _ => e_i2 st fun x y r => (¬ x = y → k kc ks q.2.2.1 lv r M) ∧ (x = y → k kc ks (pc + 3) lv r M)
  | .if_icmp .lt _ => e_i2 st fun x y r => (x < y → k kc ks q.2.2.1 lv r M) ∧ (¬ x < y → k kc ks (pc + 3) lv r M)
  | .if_icmp .ge _ => e_i2 st fun x y r => (y ≤ x → k kc ks q.2.2.1 lv r M) ∧ (¬ y ≤ x → k kc ks (pc + 3) lv r M)
  | .if_icmp .gt _ => e_i2 st fun x y r => (y < x → k kc ks q.2.2.1 lv r M) ∧ (¬ y < x → k kc ks (pc + 3) lv r M)
  | .if_icmp .le _ => e_i2 st fun x y r => (x ≤ y → k kc ks q.2.2.1 lv r M) ∧ (¬ x ≤ y → k kc ks (pc + 3) lv r M)
  | .ifnull _ => e_r1 st fun x r => (x = 0 → k kc ks q.2.2.1 lv r M) ∧ (¬ x = 0 → k kc ks (pc + 3) lv r M)
  | .ifnonnull _ => e_r1 st fun x r => (¬ x = 0 → k kc ks q.2.2.1 lv r M) ∧ (x = 0 → k kc ks (pc + 3) lv r M)
  | .tableswitch d lo hi offs => e_i1 st fun x r => ((x.toInt < lo ∨ hi < x.toInt) → k kc ks (e_tgt pc d) lv r M) ∧ (¬ x.toInt < lo → ¬ hi < x.toInt → ∃ o, offs[(x.toInt - lo).toNat]? = some o ∧ k kc ks (e_tgt pc o) lv r M)
  | .lookupswitch d ps => e_i1 st fun x r => k kc ks (e_tgt pc (Op.lookupswitch.offset ps.toList d x.toInt)) lv r M
  | .getfield _ => q.2.2.1 < 20 ∧ e_r1 st fun o r => e_ob M o q.2.2.1 ∧ k kc ks (pc + 3) lv (e_gv M o q.2.2.2.1 ((e_fk q.2.2.1).getD q.2.2.2.1 0) :: r) M
  | .putfield _ => q.2.2.1 < 20 ∧ e_put k kc ks (pc + 3) q.2.2.1 q.2.2.2.1 lv st M
  | .getstatic _ => (q.2.2.1 = 2 ∨ q.2.2.1 = 3 ∨ q.2.2.1 = 4) ∧ k kc ks (pc + 3) lv (.ref q.2.2.1 :: st) M
  | .iaload => e_ri st fun a i r => e_ai M a i ∧ k kc ks (pc + 1) lv (.int (M.2.2.1 a i.toNatClampNeg) :: r) M
  | .baload => e_ri st fun a i r => e_ar M a 22 i ∧ k kc ks (pc + 1) lv (.int (M.2.2.1 a i.toNatClampNeg) :: r) M
  | .laload => e_ri st fun a i r => e_ar M a 21 i ∧ k kc ks (pc + 1) lv (.long (M.2.2.2.1 a i.toNatClampNeg) :: r) M
  | .aaload => e_ri st fun a i r => (e_ar M a 23 i ∨ e_ar M a 24 i) ∧ k kc ks (pc + 1) lv (.ref (M.2.2.2.2 a i.toNatClampNeg) :: r) M
  | .iastore => e_rii st fun a i x r => e_ar M a 20 i ∧ k kc ks (pc + 1) lv r (e_si M a i.toNatClampNeg x)
  | .bastore => e_rii st fun a i x r => e_ar M a 22 i ∧ k kc ks (pc + 1) lv r (e_si M a i.toNatClampNeg (vp_nar .boolean x))
  | .lastore => e_ril st fun a i x r => e_ar M a 21 i ∧ k kc ks (pc + 1) lv r (e_sl M a i.toNatClampNeg x)
  | .aastore => e_rir st fun a i x r => ((e_ar M a 23 i ∧ e_ob M x 4) ∨ (e_ar M a 24 i ∧ e_ob M x 8)) ∧ k kc ks (pc + 1) lv r (e_sr M a i.toNatClampNeg x)
  | .arraylength => e_r1 st fun a r => ((0 < a ∧ a < M.1 ∧ (M.2.1 a).1 = 20) ∨ (e_c0 ≤ a ∧ a < M.1 ∧ 20 ≤ (M.2.1 a).1 ∧ (M.2.1 a).1 ≤ 24)) ∧ k kc ks (pc + 1) lv (.int (Int32.ofNat (M.2.1 a).2) :: r) M
  | .new _ => if 91 ≤ q.2.2.1 then q.2.2.1 ≤ 94 ∧ (1 ≤ kc ∧ st = []) ∧ 6 ≤ ks ∧ Q (some (.retAddr q.2.2.1)) M else q.2.2.1 < 20 ∧ 1 ≤ kc ∧ (e_fk q.2.2.1).length ≤ ks ∧ k (kc - 1) (ks - (e_fk q.2.2.1).length) (pc + 3) lv (.ref M.1 :: st) (e_new M q.2.2.1 0)
  | .newarray _ => e_i1 st fun n r => (q.2.2.1 = 20 ∨ q.2.2.1 = 21 ∨ q.2.2.1 = 22) ∧ ¬ n < 0 ∧ n.toNatClampNeg ≤ 400000 ∧ 1 ≤ kc ∧ n.toNatClampNeg ≤ ks ∧ k (kc - 1) (ks - n.toNatClampNeg) (pc + 2) lv (.ref M.1 :: r) (e_new M q.2.2.1 n.toNatClampNeg)
  | .anewarray _ => e_i1 st fun n r => (q.2.2.1 = 23 ∨ q.2.2.1 = 24) ∧ ¬ n < 0 ∧ n.toNatClampNeg ≤ 400000 ∧ 1 ≤ kc ∧ n.toNatClampNeg ≤ ks ∧ k (kc - 1) (ks - n.toNatClampNeg) (pc + 3) lv (.ref M.1 :: r) (e_new M q.2.2.1 n.toNatClampNeg)
  | .invokevirtual _ => q.2.2.1 < 900 ∧ q.2.2.2.2.toNat ≤ st.length ∧ e_r1 (st.drop q.2.2.2.2.toNat) fun o r => e_ob M o q.2.2.2.1 ∧ e_cal k cal q.2.2.1 kc ks (pc + 3) (.ref o :: (st.take q.2.2.2.2.toNat).reverse) lv r M
  | .invokespecial _ => if q.2.2.1 = 900 then e_r1 st fun o r => e_c0 ≤ o ∧ (r.map fun v => v.category).sum ≤ 8 ∧ k kc ks (pc + 3) lv r M else
      q.2.2.1 < 900 ∧ q.2.2.2.2.toNat ≤ st.length ∧ e_r1 (st.drop q.2.2.2.2.toNat) fun o r => e_c0 ≤ o ∧ e_cal k cal q.2.2.1 kc ks (pc + 3) (.ref o :: (st.take q.2.2.2.2.toNat).reverse) lv r M
  | .invokestatic _ => if q.2.2.1 = 901 then e_cp st fun a sp b dp n r => e_cg M a sp b dp n ∧ (r.map fun v => v.category).sum ≤ 8 ∧ k kc ks (pc + 3) lv r (e_cpy M a sp b dp n) else
      if q.2.2.1 = 905 then e_i2 st fun x y r => (r.map fun v => v.category).sum ≤ 8 ∧ k kc ks (pc + 3) lv (.int (if x < y then y else x) :: r) M else
      if q.2.2.1 = 906 then e_i2 st fun x y r => (r.map fun v => v.category).sum ≤ 8 ∧ k kc ks (pc + 3) lv (.int (if y < x then y else x) :: r) M else
      q.2.2.1 < 900 ∧ q.2.2.2.2.toNat ≤ st.length ∧ e_cal k cal q.2.2.1 kc ks (pc + 3) (st.take q.2.2.2.2.toNat).reverse lv (st.drop q.2.2.2.2.toNat) M
  | .return_ => st = [] ∧ ret = none ∧ Q none M
  | .ireturn => e_i1 st fun x r => r = [] ∧ (ret = some .int ∨ (ret = some .boolean ∧ (x = 0 ∨ x = 1))) ∧ Q (some (.int x)) M
  | .lreturn => e_l1 st fun x r => r = [] ∧ ret = some .long ∧ Q (some (.long x)) M
  | .areturn => e_r1 st fun x r => r = [] ∧ ((∃ n, ret = some (.object n)) ∨ ∃ t, ret = some (.array t)) ∧ Q (some (.ref x)) M
  | _ => False
