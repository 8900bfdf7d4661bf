/-! ===== one instruction, and a whole method ===== -/
/-- not one of the five that throw -/
def e_nf (j : Nat) : Bool := !([26, 34, 37, 39, 40, 997, 998].contains j)
theorem e_okM_pl {j na : Nat} {ps : List Nat} (h : e_okM j na ps = true) (hn : e_nf j = true) : plainName (e_m j).1.cls = true := by
  have h1 := (e_okM_f h).2.2.2.2.2.2
  rcases (Bool.or_eq_true _ _).mp h1 with h2 | h2
  · exact h2
  · exfalso
    have : j = 997 ∨ j = 998 := by simpa using h2
    rcases this with rfl | rfl
    · revert hn; decide
    · revert hn; decide
theorem e_five0 : (List.range 79).all (fun j => !(e_nf j) || !(e_thn (e_m j).1.cls (e_m j).1.name)) = true := by decide +kernel
theorem e_five {j : Nat} (hj : j < 79) (h : e_nf j = true) : e_thn (e_m j).1.cls (e_m j).1.name = false := by
  have := List.all_eq_true.mp e_five0 j (List.mem_range.mpr hj)
  rw [h] at this
  simpa using this
def e_dec (i pc : Nat) : Option eI := (e_m i).2.2.2.2.lookup pc
/-- from this place on: the method returns, and Q holds of what it returns and of the memory then (at most n steps; d: how deep calls may go; cells and slots that may be made) -/
def e_wp : Nat → Nat → Nat → Nat → Nat → Nat → eL → List Value → eM → eQ → Prop
  | 0, _, _, _, _, _, _, _, _, _ => False
  | n + 1, i, d, kc, ks, pc, lv, st, M, Q => match e_dec i pc with
    | none => False
    | some q => e_ins (e_m i).2.2.1 (fun kc' ks' pc' lv' st' M' => e_wp n i d kc' ks' pc' lv' st' M' Q) (fun j mc ms av M' K => ∃ d', d = d' + 1 ∧ j < 79 ∧ e_nf j = true ∧ (lg_sl av).length ≤ (e_m j).2.2.1 ∧ e_wp n j d' mc ms 0 (lv_args 0 av) [] M' K) Q (e_m i).2.2.2.1 kc ks pc q lv st M
/-- not a throw -/
def e_nr (Q : eQ) : eQ := fun v M => Q v M ∧ ∀ a : Nat, v ≠ some (.retAddr a)
theorem e_nr_W {p : Program} {l : Launch} {e : Env} {R : Room} {s : State} {m : MethodId} {args : Array Value} {below : List Frame} {meth : Method} {c : Code} {H : Heap} {locs : List Loc} {cells slots mc ms : Nat} {w : eW} {Q : eQ} {A : Nat → Prop} {g : JFrame} (h : W p l e R s m args below meth c H locs cells slots (MQ below (e_Qc w (e_nr Q)) args s mc ms A) g) : W p l e R s m args below meth c H locs cells slots (MQ below (e_Qc w Q) args s mc ms A) g := by
  intro T hT X
  obtain ⟨t, a1, o, b1, b2, ⟨⟨v, M', c1, c2, c3⟩, c4⟩, b4⟩ := h T hT X
  exact ⟨t, a1, o, b1, b2, ⟨⟨v, M', c1, c2.1, c3⟩, c4⟩, b4⟩
theorem e_aty {t u : ArrayType} (h : (t == u) = true) : t = u := by cases t <;> cases u <;> first | rfl | cases h
section ONE
variable {p : Program} {l : Launch} {e : Env} {R : Room} {s : State} {m : MethodId} {args : Array Value} {below : List Frame} {meth : Method} {c : Code} {Qf : State → Prop} {w : eW}
variable {cc : ByteArray} {nL : Nat} {k : eK} {H : Heap} {locs : List Loc} {cells slots kc ks pc : Nat} {ls : Array Slot} {lv : eL} {M : eM}
set_option maxHeartbeats 4000000 in
theorem e_one (hOkM : ∀ j, j < 79 → e_OkM j) (hx : p.tables.exec = Jvm.exec) (hb : c.code = cc) (hml : c.maxLocals = nL) (hgo : e_Go p l e R s m args below meth c Qf w nL k) (hH : e_H w M s H) (hS : va_S (e_A w) s.heap H locs) (hc : cells + kc ≤ R.cells) (hs : slots + ks ≤ R.slots) (hl : lv_has ls nL (lv.map (e_cq w)))
    (hG : e_G w s) (hts : ∀ v ∈ e_big, v.before args s = true) {own nm : String} (ho : s.vm.findClass own = some m.cls) (hnm : meth.name = nm) {cal : eC} (hcal : e_Cal l R w cal) (hR : 1 ≤ R.frames ∧ 64 ≤ R.locals) {Q : eQ} (hlo : meth.locks = false) {ret : Option FieldType} (hret : meth.sig.returnType = ret)
    (hmq : ∀ (H : Heap) (locs : List Loc) (cells slots : Nat) (g : JFrame), W p l e R s m args below meth c H locs cells slots (MQ below (e_Qc w (e_nr Q)) args s R.cells R.slots (e_A w)) g → W p l e R s m args below meth c H locs cells slots Qf g)
    {q : eI} {ps : List Nat} {st : List Value} (hthr : ∀ (x a b : Nat) (z : Int), q = (.new x, 3, a, b, z) → e_thn own nm = true → 91 ≤ a → a ≤ 94 → (1 ≤ kc ∧ st = []) → 6 ≤ ks → Q (some (.retAddr a)) M → W p l e R s m args below meth c H locs cells slots Qf (F0 m pc ls (st.map (e_cv w))))
    (d : decode cc pc = .ok (q.1, q.2.1)) (hok : e_okI own nm pc q ps = true) (h : e_ins nL k cal Q ret kc ks pc q lv st M) : W p l e R s m args below meth c H locs cells slots Qf (F0 m pc ls (st.map (e_cv w))) := by
  obtain ⟨ins, len, a, b, z⟩ := q
  unfold e_okI at hok
  rw [Bool.and_eq_true, Bool.or_eq_true, beq_iff_eq, beq_iff_eq] at hok
  obtain ⟨hln, hok⟩ := hok
  have hc' : cells ≤ R.cells := by omega
  have hs' : slots ≤ R.slots := by omega
  cases ins with
  | iconst n =>
    obtain rfl : len = 1 := e_len hln
    exact es_iconst hx hb hgo hH hS hc hs hl d h
  | bipush n =>
    obtain rfl : len = 2 := e_len hln
    exact es_bipush hx hb hgo hH hS hc hs hl d h
  | sipush n =>
    obtain rfl : len = 3 := e_len hln
    exact es_sipush hx hb hgo hH hS hc hs hl d h
  | lconst n =>
    obtain rfl : len = 1 := e_len hln
    exact es_lconst hx hb hgo hH hS hc hs hl d h
  | aconst_null =>
    obtain rfl : len = 1 := e_len hln
    exact es_null hx hb hgo hH hS hc hs hl d h
  | ldc x =>
    obtain rfl : len = 2 := e_len hln
    obtain ⟨h0, h⟩ := h
    have h0 : a = 0 := h0
    subst h0
    exact es_ldc hx hb hgo hH hS hc hs hl ho d (hts _ (e_ats_big (by simpa using hok) _ (by simp))) h
  | ldc_w x =>
    obtain rfl : len = 3 := e_len hln
    obtain ⟨h0, h⟩ := h
    have h0 : a = 0 := h0
    subst h0
    exact es_ldc_w hx hb hgo hH hS hc hs hl ho d (hts _ (e_ats_big (by simpa using hok) _ (by simp))) h
  | ldc2_w x =>
    obtain rfl : len = 3 := e_len hln
    exact es_ldc2 hx hb hgo hH hS hc hs hl ho d (hts _ (e_ats_big hok _ (by simp))) h
  | iload_n j =>
    obtain rfl : len = 1 := e_len hln
    exact es_iload_n hx hb hgo hH hS hc hs hl d h
  | iload j =>
    obtain rfl : len = 2 := e_len hln
    exact es_iload hx hb hgo hH hS hc hs hl d h
  | lload_n j =>
    obtain rfl : len = 1 := e_len hln
    exact es_lload_n hx hb hgo hH hS hc hs hl d h
  | lload j =>
    obtain rfl : len = 2 := e_len hln
    exact es_lload hx hb hgo hH hS hc hs hl d h
  | aload_n j =>
    obtain rfl : len = 1 := e_len hln
    exact es_aload_n hx hb hgo hH hS hc hs hl d h
  | aload j =>
    obtain rfl : len = 2 := e_len hln
    exact es_aload hx hb hgo hH hS hc hs hl d h
  | istore_n j =>
    obtain rfl : len = 1 := e_len hln
    obtain ⟨x, r, rfl, h1, h⟩ := e_i1_inv h
    exact es_istore_n hx hb hgo hH hS hc hs hl d h1 h
  | istore j =>
    obtain rfl : len = 2 := e_len hln
    obtain ⟨x, r, rfl, h1, h⟩ := e_i1_inv h
    exact es_istore hx hb hgo hH hS hc hs hl d h1 h
  | lstore_n j =>
    obtain rfl : len = 1 := e_len hln
    obtain ⟨x, r, rfl, h1, h⟩ := e_l1_inv h
    exact es_lstore_n hx hb hgo hH hS hc hs hl d h1 h
  | lstore j =>
    obtain rfl : len = 2 := e_len hln
    obtain ⟨x, r, rfl, h1, h⟩ := e_l1_inv h
    exact es_lstore hx hb hgo hH hS hc hs hl d h1 h
  | astore_n j =>
    obtain rfl : len = 1 := e_len hln
    obtain ⟨x, r, rfl, h1, h⟩ := e_r1_inv h
    exact es_astore_n hx hb hgo hH hS hc hs hl d h1 h
  | astore j =>
    obtain rfl : len = 2 := e_len hln
    obtain ⟨x, r, rfl, h1, h⟩ := e_r1_inv h
    exact es_astore hx hb hgo hH hS hc hs hl d h1 h
  | iinc j n =>
    obtain rfl : len = 3 := e_len hln
    obtain ⟨v, h0, h⟩ := e_lk_inv h
    cases v with
    | int x => exact es_iinc hx hb hgo hH hS hc hs hl d h0 h.1 h.2
    | _ => exact False.elim h
  | iadd =>
    obtain rfl : len = 1 := e_len hln
    obtain ⟨x, y, r, rfl, h⟩ := e_i2_inv h
    exact es_iadd hx hb hgo hH hS hc hs hl d h
  | isub =>
    obtain rfl : len = 1 := e_len hln
    obtain ⟨x, y, r, rfl, h⟩ := e_i2_inv h
    exact es_isub hx hb hgo hH hS hc hs hl d h
  | imul =>
    obtain rfl : len = 1 := e_len hln
    obtain ⟨x, y, r, rfl, h⟩ := e_i2_inv h
    exact es_imul hx hb hgo hH hS hc hs hl d h
  | iand =>
    obtain rfl : len = 1 := e_len hln
    obtain ⟨x, y, r, rfl, h⟩ := e_i2_inv h
    exact es_iand hx hb hgo hH hS hc hs hl d h
  | ior =>
    obtain rfl : len = 1 := e_len hln
    obtain ⟨x, y, r, rfl, h⟩ := e_i2_inv h
    exact es_ior hx hb hgo hH hS hc hs hl d h
  | ixor =>
    obtain rfl : len = 1 := e_len hln
    obtain ⟨x, y, r, rfl, h⟩ := e_i2_inv h
    exact es_ixor hx hb hgo hH hS hc hs hl d h
  | ishl =>
    obtain rfl : len = 1 := e_len hln
    obtain ⟨x, y, r, rfl, h⟩ := e_i2_inv h
    exact es_ishl hx hb hgo hH hS hc hs hl d h
  | ishr =>
    obtain rfl : len = 1 := e_len hln
    obtain ⟨x, y, r, rfl, h⟩ := e_i2_inv h
    exact es_ishr hx hb hgo hH hS hc hs hl d h
  | iushr =>
    obtain rfl : len = 1 := e_len hln
    obtain ⟨x, y, r, rfl, h⟩ := e_i2_inv h
    exact es_iushr hx hb hgo hH hS hc hs hl d h
  | idiv =>
    obtain rfl : len = 1 := e_len hln
    obtain ⟨x, y, r, rfl, h0, h⟩ := e_i2_inv h
    exact es_idiv hx hb hgo hH hS hc hs hl d h0 h
  | irem =>
    obtain rfl : len = 1 := e_len hln
    obtain ⟨x, y, r, rfl, h0, h⟩ := e_i2_inv h
    exact es_irem hx hb hgo hH hS hc hs hl d h0 h
  | ineg =>
    obtain rfl : len = 1 := e_len hln
    obtain ⟨x, r, rfl, h⟩ := e_i1_inv h
    exact es_ineg hx hb hgo hH hS hc hs hl d h
  | ladd =>
    obtain rfl : len = 1 := e_len hln
    obtain ⟨x, y, r, rfl, h⟩ := e_l2_inv h
    exact es_ladd hx hb hgo hH hS hc hs hl d h
  | land =>
    obtain rfl : len = 1 := e_len hln
    obtain ⟨x, y, r, rfl, h⟩ := e_l2_inv h
    exact es_land hx hb hgo hH hS hc hs hl d h
  | lor =>
    obtain rfl : len = 1 := e_len hln
    obtain ⟨x, y, r, rfl, h⟩ := e_l2_inv h
    exact es_lor hx hb hgo hH hS hc hs hl d h
  | lxor =>
    obtain rfl : len = 1 := e_len hln
    obtain ⟨x, y, r, rfl, h⟩ := e_l2_inv h
    exact es_lxor hx hb hgo hH hS hc hs hl d h
  | lcmp =>
    obtain rfl : len = 1 := e_len hln
    obtain ⟨x, y, r, rfl, h⟩ := e_l2_inv h
    exact es_lcmp hx hb hgo hH hS hc hs hl d h
  | lshl =>
    obtain rfl : len = 1 := e_len hln
    obtain ⟨x, y, r, rfl, h⟩ := e_li_inv h
    exact es_lshl hx hb hgo hH hS hc hs hl d h
  | lshr =>
    obtain rfl : len = 1 := e_len hln
    obtain ⟨x, y, r, rfl, h⟩ := e_li_inv h
    exact es_lshr hx hb hgo hH hS hc hs hl d h
  | lushr =>
    obtain rfl : len = 1 := e_len hln
    obtain ⟨x, y, r, rfl, h⟩ := e_li_inv h
    exact es_lushr hx hb hgo hH hS hc hs hl d h
  | i2l =>
    obtain rfl : len = 1 := e_len hln
    obtain ⟨x, r, rfl, h⟩ := e_i1_inv h
    exact es_i2l hx hb hgo hH hS hc hs hl d h
  | l2i =>
    obtain rfl : len = 1 := e_len hln
    obtain ⟨x, r, rfl, h⟩ := e_l1_inv h
    exact es_l2i hx hb hgo hH hS hc hs hl d h
  | i2b =>
    obtain rfl : len = 1 := e_len hln
    obtain ⟨x, r, rfl, h⟩ := e_i1_inv h
    exact es_i2b hx hb hgo hH hS hc hs hl d h
  | i2s =>
    obtain rfl : len = 1 := e_len hln
    obtain ⟨x, r, rfl, h⟩ := e_i1_inv h
    exact es_i2s hx hb hgo hH hS hc hs hl d h
  | dup =>
    obtain rfl : len = 1 := e_len hln
    cases st with
    | nil => exact False.elim h
    | cons v r => exact es_dup hx hb hgo hH hS hc hs hl d h.1 h.2
  | dup2 =>
    obtain rfl : len = 1 := e_len hln
    cases st with
    | nil => exact False.elim h
    | cons v r =>
      cases r with
      | nil => exact False.elim h
      | cons u r => exact es_dup2 hx hb hgo hH hS hc hs hl d h.1 h.2.1 h.2.2
  | pop =>
    obtain rfl : len = 1 := e_len hln
    cases st with
    | nil => exact False.elim h
    | cons v r => exact es_pop hx hb hgo hH hS hc hs hl d h.1 h.2
  | goto t =>
    obtain rfl : len = 3 := e_len hln
    exact es_goto hx hb hgo hH hS hc hs hl d (eq_of_beq hok) h
  | ifCond cnd t =>
    obtain rfl : len = 3 := e_len hln
    cases cnd with
    | eq => (obtain ⟨x, r, rfl, h⟩ := e_i1_inv h; exact es_if_eq hx hb hgo hH hS hc hs hl d (eq_of_beq hok) h)
    | ne => (obtain ⟨x, r, rfl, h⟩ := e_i1_inv h; exact es_if_ne hx hb hgo hH hS hc hs hl d (eq_of_beq hok) h)
    | lt => (obtain ⟨x, r, rfl, h⟩ := e_i1_inv h; exact es_if_lt hx hb hgo hH hS hc hs hl d (eq_of_beq hok) h)
    | ge => (obtain ⟨x, r, rfl, h⟩ := e_i1_inv h; exact es_if_ge hx hb hgo hH hS hc hs hl d (eq_of_beq hok) h)
    | gt => (obtain ⟨x, r, rfl, h⟩ := e_i1_inv h; exact es_if_gt hx hb hgo hH hS hc hs hl d (eq_of_beq hok) h)
    | le => (obtain ⟨x, r, rfl, h⟩ := e_i1_inv h; exact es_if_le hx hb hgo hH hS hc hs hl d (eq_of_beq hok) h)
  | if_icmp cnd t =>
    obtain rfl : len = 3 := e_len hln
    cases cnd with
    | eq => (obtain ⟨x, y, r, rfl, h⟩ := e_i2_inv h; exact es_icmp_eq hx hb hgo hH hS hc hs hl d (eq_of_beq hok) h)
    | ne => (obtain ⟨x, y, r, rfl, h⟩ := e_i2_inv h; exact es_icmp_ne hx hb hgo hH hS hc hs hl d (eq_of_beq hok) h)
    | lt => (obtain ⟨x, y, r, rfl, h⟩ := e_i2_inv h; exact es_icmp_lt hx hb hgo hH hS hc hs hl d (eq_of_beq hok) h)
    | ge => (obtain ⟨x, y, r, rfl, h⟩ := e_i2_inv h; exact es_icmp_ge hx hb hgo hH hS hc hs hl d (eq_of_beq hok) h)
    | gt => (obtain ⟨x, y, r, rfl, h⟩ := e_i2_inv h; exact es_icmp_gt hx hb hgo hH hS hc hs hl d (eq_of_beq hok) h)
    | le => (obtain ⟨x, y, r, rfl, h⟩ := e_i2_inv h; exact es_icmp_le hx hb hgo hH hS hc hs hl d (eq_of_beq hok) h)
  | ifnull t =>
    obtain rfl : len = 3 := e_len hln
    obtain ⟨x, r, rfl, h⟩ := e_r1_inv h
    exact es_ifnull hx hb hgo hH hS hc hs hl d (eq_of_beq hok) h
  | ifnonnull t =>
    obtain rfl : len = 3 := e_len hln
    obtain ⟨x, r, rfl, h⟩ := e_r1_inv h
    exact es_ifnonnull hx hb hgo hH hS hc hs hl d (eq_of_beq hok) h
  | tableswitch dd lo hi offs =>
    obtain ⟨x, r, rfl, h⟩ := e_i1_inv h
    rw [Bool.and_eq_true, decide_eq_true_eq, List.all_eq_true] at hok
    exact es_tsw hx hb hgo hH hS hc hs hl d hok.1 (fun o ho => of_decide_eq_true (hok.2 o ho)) h
  | lookupswitch dd prs =>
    obtain ⟨x, r, rfl, h⟩ := e_i1_inv h
    rw [Bool.and_eq_true, Bool.and_eq_true, decide_eq_true_eq] at hok
    obtain ⟨k1, k2, k3⟩ := hok
    have k3 := List.all_eq_true.mp k3
    exact es_lsw hx hb hgo hH hS hc hs hl d k1 k2 (fun o ho => of_decide_eq_true (k3 o ho)) h
  | getfield x =>
    obtain rfl : len = 3 := e_len hln
    obtain ⟨ha, h⟩ := h
    have ha : a < 20 := ha
    obtain ⟨o, r, rfl, hob, h⟩ := e_r1_inv h
    have hok : e_okF own x a b ps = true := by
      rcases (Bool.or_eq_true _ _).mp hok with q | q
      · exact absurd (of_decide_eq_true q) (Nat.not_le.mpr ha)
      · exact q
    unfold e_okF at hok
    cases hq : e_cl[a]? with
    | none => rw [hq] at hok; cases hok
    | some q =>
      rw [hq] at hok
      rw [Bool.and_eq_true, decide_eq_true_eq] at hok
      exact es_getfield hx hb hgo hH hS hc hs hl hG hts ho hob hq hok.1 (e_ats_big hok.2 _ (by simp)) d h
  | putfield x =>
    obtain rfl : len = 3 := e_len hln
    obtain ⟨ha, h⟩ := h
    have ha : a < 20 := ha
    have hok := (Bool.or_eq_true _ _).mp hok |>.resolve_left (fun q => absurd (of_decide_eq_true q) (Nat.not_le.mpr ha))
    rw [Bool.and_eq_true] at hok
    obtain ⟨hok, hfi⟩ := hok
    unfold e_okF at hok
    cases hq : e_cl[a]? with
    | none => rw [hq] at hok; cases hok
    | some q =>
      rw [hq] at hok hfi
      rw [Bool.and_eq_true, decide_eq_true_eq] at hok
      rw [Bool.or_eq_true, Bool.not_eq_true', Bool.and_eq_true, beq_iff_eq, beq_iff_eq] at hfi
      exact es_put hx hb hgo hH hS hc hs hl hG hts ho hq hok.1 (e_ats_big hok.2 _ (by simp)) (hfi.imp id (fun z => ⟨hnm.trans z.1, z.2⟩)) d h
  | getstatic x =>
    obtain rfl : len = 3 := e_len hln
    obtain ⟨ha, h⟩ := h
    rcases ha with ha | ha | ha
    · have ha : a = 2 := ha; subst ha; exact es_getstatic hx hb hgo hH hS hc hs hl hG ho (a := 2) (n := "SIZES") (of_decide_eq_true hok) (by decide) d h
    · have ha : a = 3 := ha; subst ha; exact es_getstatic hx hb hgo hH hS hc hs hl hG ho (a := 3) (n := "TAKES") (of_decide_eq_true hok) (by decide) d h
    · have ha : a = 4 := ha; subst ha; exact es_getstatic hx hb hgo hH hS hc hs hl hG ho (a := 4) (n := "PUTS") (of_decide_eq_true hok) (by decide) d h
  | iaload =>
    obtain rfl : len = 1 := e_len hln
    obtain ⟨a, i, r, rfl, ha, h⟩ := e_ri_inv h
    exact es_iaload hx hb hgo hH hS hc hs hl hG ha d h
  | baload =>
    obtain rfl : len = 1 := e_len hln
    obtain ⟨a, i, r, rfl, ha, h⟩ := e_ri_inv h
    exact es_baload hx hb hgo hH hS hc hs hl hG ha d h
  | laload =>
    obtain rfl : len = 1 := e_len hln
    obtain ⟨a, i, r, rfl, ha, h⟩ := e_ri_inv h
    exact es_laload hx hb hgo hH hS hc hs hl hG ha d h
  | aaload =>
    obtain rfl : len = 1 := e_len hln
    obtain ⟨a, i, r, rfl, ha, h⟩ := e_ri_inv h
    exact es_aaload hx hb hgo hH hS hc hs hl hG ha d h
  | iastore =>
    obtain rfl : len = 1 := e_len hln
    obtain ⟨a, i, x, r, rfl, ha, h⟩ := e_rii_inv h
    exact es_iastore hx hb hgo hH hS hc hs hl hG ha d h
  | bastore =>
    obtain rfl : len = 1 := e_len hln
    obtain ⟨a, i, x, r, rfl, ha, h⟩ := e_rii_inv h
    exact es_bastore hx hb hgo hH hS hc hs hl hG ha d h
  | lastore =>
    obtain rfl : len = 1 := e_len hln
    obtain ⟨a, i, x, r, rfl, ha, h⟩ := e_ril_inv h
    exact es_lastore hx hb hgo hH hS hc hs hl hG ha d h
  | aastore =>
    obtain rfl : len = 1 := e_len hln
    obtain ⟨a, i, x, r, rfl, ha, h⟩ := e_rir_inv h
    exact es_aastore hx hb hgo hH hS hc hs hl hG ha d h
  | arraylength =>
    obtain rfl : len = 1 := e_len hln
    obtain ⟨a, r, rfl, ha, h⟩ := e_r1_inv h
    exact es_alen hx hb hgo hH hS hc hs hl hG ha d h
  | new x =>
    obtain rfl : len = 3 := e_len hln
    by_cases h9 : 91 ≤ a
    · have h : a ≤ 94 ∧ (1 ≤ kc ∧ st = []) ∧ 6 ≤ ks ∧ Q (some (.retAddr a)) M := by
        have h := h
        unfold e_ins at h
        simp only [if_pos h9] at h
        exact h
      refine hthr x a b z rfl ?_ h9 h.1 h.2.1 h.2.2.1 h.2.2.2
      rcases (Bool.or_eq_true _ _).mp hok with q | q
      · rw [Bool.and_eq_true] at q
        rcases (Bool.or_eq_true _ _).mp q.2 with q2 | q2
        · have q3 : a < 91 ∨ 94 < a := by simpa using q2
          have := h.1
          omega
        · exact q2
      · exfalso
        have hq : e_cl[a]? = none := by
          rw [List.getElem?_eq_none_iff]
          have : e_cl.length = 13 := rfl
          omega
        simp only [hq] at q
        cases q
    · have h : a < 20 ∧ 1 ≤ kc ∧ (e_fk a).length ≤ ks ∧ k (kc - 1) (ks - (e_fk a).length) (pc + 3) lv (.ref M.1 :: st) (e_new M a 0) := by
        have h := h
        unfold e_ins at h
        simp only [if_neg h9] at h
        exact h
      obtain ⟨ha, h1, h2, h⟩ := h
      have hok := (Bool.or_eq_true _ _).mp hok |>.resolve_left (fun q => absurd (of_decide_eq_true ((Bool.and_eq_true _ _).mp q).1) (Nat.not_le.mpr ha))
      cases hq : e_cl[a]? with
      | none => simp only [hq] at hok; cases hok
      | some q =>
        simp only [hq] at hok
        have hw := e_ats_big hok
        exact es_new hx hb hgo hH hS hc hs hl hG hts ho hq (hw _ (by simp)) (hw _ (by simp)) (hw _ (by simp)) d h1 h2 h
  | newarray t =>
    obtain rfl : len = 2 := e_len hln
    obtain ⟨n, r, rfl, ha, h0, h3, h1, h2, h⟩ := e_i1_inv h
    have ha : a = 20 ∨ a = 21 ∨ a = 22 := ha
    simp only [Bool.or_eq_true, Bool.and_eq_true, beq_iff_eq] at hok
    refine es_newarray hx hb hgo hH hS hc hs hl hG hts (t := a) ?_ d h0 h3 h1 h2 h
    rcases hok with ⟨g1, g2, g3⟩ | ⟨g1, g2, g3⟩ | ⟨g1, g2, g3⟩ | g
    · exact Or.inl ⟨g1, e_aty g2, e_ats_big g3 _ (by simp)⟩
    · exact Or.inr (Or.inl ⟨g1, e_aty g2, e_ats_big g3 _ (by simp)⟩)
    · exact Or.inr (Or.inr ⟨g1, e_aty g2, e_ats_big g3 _ (by simp)⟩)
    · omega
  | anewarray x =>
    obtain rfl : len = 3 := e_len hln
    obtain ⟨n, r, rfl, ha, h0, h3, h1, h2, h⟩ := e_i1_inv h
    simp only [Bool.or_eq_true, Bool.and_eq_true, beq_iff_eq] at hok
    refine es_anewarray hx hb hgo hH hS hc hs hl hG hts ho (t := a) ?_ d h0 h3 h1 h2 h
    rcases hok with ⟨g1, g3⟩ | ⟨g1, g3⟩
    · exact Or.inl ⟨g1, e_ats_big g3 _ (by simp)⟩
    · exact Or.inr ⟨g1, e_ats_big g3 _ (by simp)⟩
  | invokevirtual x =>
    obtain rfl : len = 3 := e_len hln
    obtain ⟨ha, h0, h⟩ := h
    have ha : a < 900 := ha
    obtain ⟨o, r, hst, hob, h⟩ := e_r1_inv h
    have hok := (Bool.or_eq_true _ _).mp hok |>.resolve_left (fun q => absurd (of_decide_eq_true q) (Nat.not_le.mpr ha))
    rw [Bool.and_eq_true, Bool.and_eq_true, decide_eq_true_eq] at hok
    obtain ⟨⟨hj, hna⟩, hw, hcl⟩ := hok
    have hw := e_ats_big hw
    obtain ⟨ps9, hM⟩ := hOkM a hj
    have hna : z.toNat = e_pn a := hna
    rw [← hna] at hM
    cases hq : e_cl[b]? with
    | none => simp only [hq] at hcl; cases hcl
    | some q =>
      simp only [hq] at hcl
      exact es_callV hx hb hml hgo hH hS hc hs hl hG hts ho hcal hM (hw _ (by simp)) (hw _ (by simp)) (hw _ (by simp)) hq (eq_of_beq hcl) hob hst h0 d h
  | invokestatic x =>
    obtain rfl : len = 3 := e_len hln
    by_cases h9 : a = 901
    · subst h9
      have hok : e_ats [.methodLink own x arraycopyName, .native arraycopyName, .static arraycopyName, .initialized "java/lang/System"] ps = true := hok
      have hw := e_ats_big hok
      have h : e_cp st fun a sp b dp n r => e_cg M a sp b dp n ∧ (r.map fun v => v.category).sum ≤ 8 ∧ k kc ks (pc + 3) lv r (e_cpy M a sp b dp n) := h
      obtain ⟨a0, sp, b0, dp, n, r, rfl, hg, h8, h⟩ := e_cp_inv h
      exact es_copy hx hb hml hgo hH hS hc hs hl hG hts ho hR (hw _ (by simp)) (hw _ (by simp)) (hw _ (by simp)) (hw _ (by simp)) hg h8 d h
    · by_cases h5 : a = 905
      · subst h5
        have hok : e_ats [.methodLink own x Lib.Math.max.name, .static Lib.Math.max.name, .initialized "java/lang/Math", .code Lib.Math.max.name Lib.Math.max.code 2 (some .int)] ps = true := hok
        have hw := e_ats_big hok
        have h : e_i2 st fun x y r => (r.map fun v => v.category).sum ≤ 8 ∧ k kc ks (pc + 3) lv (.int (if x < y then y else x) :: r) M := h
        obtain ⟨x0, y0, r, rfl, h8, h⟩ := e_i2_inv h
        exact es_mmax hx hb hml hgo hH hS hc hs hl hts ho hR (hw _ (by simp)) (hw _ (by simp)) (hw _ (by simp)) (hw _ (by simp)) h8 d h
      by_cases h6 : a = 906
      · subst h6
        have hok : e_ats [.methodLink own x Lib.Math.min.name, .static Lib.Math.min.name, .initialized "java/lang/Math", .code Lib.Math.min.name Lib.Math.min.code 2 (some .int)] ps = true := hok
        have hw := e_ats_big hok
        have h : e_i2 st fun x y r => (r.map fun v => v.category).sum ≤ 8 ∧ k kc ks (pc + 3) lv (.int (if y < x then y else x) :: r) M := h
        obtain ⟨x0, y0, r, rfl, h8, h⟩ := e_i2_inv h
        exact es_mmin hx hb hml hgo hH hS hc hs hl hts ho hR (hw _ (by simp)) (hw _ (by simp)) (hw _ (by simp)) (hw _ (by simp)) h8 d h
      have h : a < 900 ∧ z.toNat ≤ st.length ∧ e_cal k cal a kc ks (pc + 3) (st.take z.toNat).reverse lv (st.drop z.toNat) M := by
        have h := h
        unfold e_ins at h
        simp only [if_neg h9, if_neg h5, if_neg h6] at h
        exact h
      obtain ⟨ha, h0, h⟩ := h
      simp only [if_neg h9, if_neg h5, if_neg h6] at hok
      have hok := (Bool.or_eq_true _ _).mp hok |>.resolve_left (fun q => absurd (of_decide_eq_true q) (Nat.not_le.mpr ha))
      rw [Bool.and_eq_true, decide_eq_true_eq] at hok
      obtain ⟨⟨hj, hna⟩, hw⟩ := hok
      have hw := e_ats_big hw
      obtain ⟨ps9, hM⟩ := hOkM a hj
      have hna : z.toNat = e_pn a := hna
      rw [← hna] at hM
      exact es_callS hx hb hml hgo hH hS hc hs hl hG hts ho hcal hM (hw _ (by simp)) (hw _ (by simp)) h0 d h
  | invokespecial x =>
    obtain rfl : len = 3 := e_len hln
    by_cases h9 : a = 900
    · subst h9
      have hok : e_ats [.methodLink own x objectInit, .instanceMethod objectInit, .code objectInit ⟨#[0xb1]⟩ 1 none] ps = true := hok
      have hw := e_ats_big hok
      have h : e_r1 st fun o r => e_c0 ≤ o ∧ (r.map fun v => v.category).sum ≤ 8 ∧ k kc ks (pc + 3) lv r M := h
      obtain ⟨o, r, rfl, hoc, h8, h⟩ := e_r1_inv h
      exact es_objInit hx hb hml hgo hH hS hc hs hl hts ho hR (hw _ (by simp)) (hw _ (by simp)) (hw _ (by simp)) hoc h8 d h
    · have h : a < 900 ∧ z.toNat ≤ st.length ∧ e_r1 (st.drop z.toNat) fun o r => e_c0 ≤ o ∧ e_cal k cal a kc ks (pc + 3) (.ref o :: (st.take z.toNat).reverse) lv r M := by
        have h := h
        unfold e_ins at h
        simp only [if_neg h9] at h
        exact h
      obtain ⟨ha, h0, h⟩ := h
      obtain ⟨o, r, hst, hoc, h⟩ := e_r1_inv h
      simp only [if_neg h9] at hok
      have hok := (Bool.or_eq_true _ _).mp hok |>.resolve_left (fun q => absurd (of_decide_eq_true q) (by omega))
      rw [Bool.and_eq_true, Bool.and_eq_true, Bool.and_eq_true, decide_eq_true_eq, beq_iff_eq, beq_iff_eq] at hok
      obtain ⟨⟨hj, hna⟩, hrt, hni, hw⟩ := hok
      obtain ⟨ps9, hM⟩ := hOkM a hj
      have hna : z.toNat = e_pn a := hna
      rw [← hna] at hM
      by_cases hb1 : b = 1
      · simp only [if_pos hb1, Bool.and_eq_true, decide_eq_true_eq] at hw
        exact es_callI hx hb hml hgo hH hS hc hs hl hG hts ho hcal hM hrt hni (e_ats_big hw.1 _ (by simp)) (Or.inr hw.2) hoc hst h0 d h
      · simp only [if_neg hb1] at hw
        have hw := e_ats_big hw
        exact es_callI hx hb hml hgo hH hS hc hs hl hG hts ho hcal hM hrt hni (hw _ (by simp)) (Or.inl (hw _ (by simp))) hoc hst h0 d h
  | return_ =>
    obtain rfl : len = 1 := e_len hln
    obtain ⟨rfl, h1, h⟩ := h
    exact hmq _ _ _ _ _ (es_ret hx hb hH hS hc' hs' hlo (hret.trans h1) d ⟨h, fun _ z => by cases z⟩)
  | ireturn =>
    obtain rfl : len = 1 := e_len hln
    obtain ⟨x, r, rfl, rfl, h1, h⟩ := e_i1_inv h
    exact hmq _ _ _ _ _ (es_iret hx hb hH hS hc' hs' hlo (by rw [hret]; exact h1) d ⟨h, fun _ z => by cases z⟩)
  | lreturn =>
    obtain rfl : len = 1 := e_len hln
    obtain ⟨x, r, rfl, rfl, h1, h⟩ := e_l1_inv h
    exact hmq _ _ _ _ _ (es_lret hx hb hH hS hc' hs' hlo (hret.trans h1) d ⟨h, fun _ z => by cases z⟩)
  | areturn =>
    obtain rfl : len = 1 := e_len hln
    obtain ⟨x, r, rfl, rfl, h1, h⟩ := e_r1_inv h
    exact hmq _ _ _ _ _ (es_aret hx hb hH hS hc' hs' hlo (by rw [hret]; exact h1) d ⟨h, fun _ z => by cases z⟩)
  | _ => exact False.elim h
end ONE
