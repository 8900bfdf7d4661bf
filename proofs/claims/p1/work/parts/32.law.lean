/-! ===== a throw that is caught in the caller ===== -/
/-- the search comes to an end, the tables a bit warmer -/
def e_fnd (e : Env) (s : State) (f : JFrame) (a : Addr) (h : Handler) (vm' : Vm) : Prop :=
  ∀ (Q : Handler → Pre) (E : CtlPost) (d : Bool) (acts : List Action), Sem.wp (findHandler f a) Q E e d acts s ↔ Q h d acts (s.setVm vm')
theorem e_fnd_step {e : Env} {s : State} {a : Addr} {f : JFrame} {r : List Frame} {pc : Nat} {vm' : Vm} (hf : e_fnd e s f a (.found pc) vm') :
    (stepThrowing e s a (.java f :: r)).Is ((s.setVm vm').setFrames (.java { f with pc := pc, stack := [.ref a] } :: r)) [] := by
  simp only [stepThrowing, searchFrame, vmDo]
  generalize hr : Sem.go _ e false [] s = res
  obtain ⟨as, rfl, ha⟩ := Sem.eq_ok_of hr (a := Handler.found pc) (s' := s.setVm vm') (acts' := []) (by simp [hf _ _ _ _])
  exact ⟨rfl, ha⟩
theorem e_row {Q : Handler → Pre} {E : CtlPost} {e : Env} {d : Bool} {acts : List Action} {s : State} {f : JFrame} {a : Addr} {x : ExceptionTableEntry} {t : List ExceptionTableEntry} {c : ClassId} {cell : Cell} (hx : covers x f.pc = true) (h0 : x.catchType ≠ 0)
    (hl : s.vm.ClassLinks e.platform f.method.cls x.catchType c) (hcell : s.heap[a]? = some cell) (hobj : ∀ k, cell.vm ≠ .statics k) (hk : ∃ k, s.vm.classes[cell.cls]? = some k) (hc : ∃ k, s.vm.classes[c]? = some k) :
    (s.vm.assignable cell.cls c = true → (Sem.wp (findHandler.go f a (x :: t)) Q E e d acts s ↔ Q (.found x.handlerPc) d acts (s.setVm (s.vm.noted f.method.cls x.catchType (.cls c))))) ∧
    (s.vm.assignable cell.cls c = false → (Sem.wp (findHandler.go f a (x :: t)) Q E e d acts s ↔ Sem.wp (findHandler.go f a t) Q E e d acts (s.setVm (s.vm.noted f.method.cls x.catchType (.cls c))))) := by
  simp only [covers] at hx
  obtain ⟨ha, ht⟩ := (resolveClass_links e.toSetting hl).op (op := VmOp.resolveClass f.method.cls x.catchType) rfl
  have hal : s.vm.Alike (s.vm.noted f.method.cls x.catchType (.cls c)) := (Vm.Alike.refl s.vm).noted _ _ _
  obtain ⟨k1, hk1⟩ := hk
  obtain ⟨k2, hk2⟩ := hc
  obtain ⟨k3, hk3, -⟩ := hal.2.2 _ _ hk1
  obtain ⟨k4, hk4, -⟩ := hal.2.2 _ _ hk2
  constructor
  · intro hy
    have hy' : (s.vm.noted f.method.cls x.catchType (.cls c)).assignable cell.cls c = true := by rw [hal.assignable]; exact hy
    simp [findHandler.go, hx, h0, ha, ht, hcell, hobj, hk3, hk4, hy', VmOp.dirties, VmOp.acts]
  · intro hy
    have hy' : (s.vm.noted f.method.cls x.catchType (.cls c)).assignable cell.cls c = false := by rw [hal.assignable]; exact hy
    simp [findHandler.go, hx, h0, ha, ht, hcell, hobj, hk3, hk4, hy', VmOp.dirties, VmOp.acts]
/-- rows that name other classes are gone by; the row x takes it -/
theorem e_rows {e : Env} {s₀ : State} {f : JFrame} {a : Addr} {cell : Cell} (hobj : ∀ k, cell.vm ≠ .statics k) (hk0 : ∃ k, s₀.vm.classes[cell.cls]? = some k) (x : ExceptionTableEntry) (rest : List ExceptionTableEntry) (hx : covers x f.pc = true) (h0 : x.catchType ≠ 0) {cx : ClassId} (hlx : s₀.vm.ClassLinks e.platform f.method.cls x.catchType cx) (hax : s₀.vm.assignable cell.cls cx = true) :
    ∀ (pre : List ExceptionTableEntry) (S : State), s₀.WarmedH S.vm → S.heap[a]? = some cell → (∀ y ∈ pre, covers y f.pc = false ∨ (y.catchType ≠ 0 ∧ ∃ c, s₀.vm.ClassLinks e.platform f.method.cls y.catchType c ∧ s₀.vm.assignable cell.cls c = false)) →
      ∃ vm', s₀.WarmedH vm' ∧ ∀ (Q : Handler → Pre) (E : CtlPost) (d : Bool) (acts : List Action), Sem.wp (findHandler.go f a (pre ++ x :: rest)) Q E e d acts S ↔ Q (.found x.handlerPc) d acts (S.setVm vm') := by
  obtain ⟨k0, hk0⟩ := hk0
  intro pre
  induction pre with
  | nil =>
    intro S hW hcell _
    obtain ⟨k1, hk1, -⟩ := hW.alike.2.2 _ _ hk0
    obtain ⟨dk, _, _, kt, hd, _, _, _, _, hkt, _, hopen⟩ := hlx.here
    obtain ⟨kt1, hkt1, -⟩ := hW.alike.2.2 _ _ hkt
    refine ⟨_, hW.noted hd hopen (State.rightAt_cls hlx), fun Q E d acts => ?_⟩
    rw [List.nil_append]
    exact (e_row hx h0 (hW.classLinks hlx) hcell hobj ⟨k1, hk1⟩ ⟨kt1, hkt1⟩).1 (by rw [hW.alike.assignable]; exact hax)
  | cons y ys ih =>
    intro S hW hcell hp
    have hys := fun z hz => hp z (List.mem_cons_of_mem _ hz)
    cases hcov : covers y f.pc with
    | false =>
      obtain ⟨vm', h1, h2⟩ := ih S hW hcell hys
      refine ⟨vm', h1, fun Q E d acts => ?_⟩
      rw [List.cons_append, W.findHandler_go_skip hcov]
      exact h2 Q E d acts
    | true =>
      rcases hp y List.mem_cons_self with h | ⟨hy0, c, hl, hno⟩
      · rw [hcov] at h; cases h
      · obtain ⟨k1, hk1, -⟩ := hW.alike.2.2 _ _ hk0
        obtain ⟨dk, _, _, kt, hd, _, _, _, _, hkt, _, hopen⟩ := hl.here
        obtain ⟨kt1, hkt1, -⟩ := hW.alike.2.2 _ _ hkt
        obtain ⟨vm', h1, h2⟩ := ih (S.setVm (S.vm.noted f.method.cls y.catchType (.cls c))) (hW.noted hd hopen (State.rightAt_cls hl)) hcell hys
        refine ⟨vm', h1, fun Q E d acts => ?_⟩
        rw [List.cons_append, (e_row hcov hy0 (hW.classLinks hl) hcell hobj ⟨k1, hk1⟩ ⟨kt1, hkt1⟩).2 (by rw [hW.alike.assignable]; exact hno)]
        exact h2 Q E d acts
section CAT
variable {p : Program} {l : Launch} {e : Env} {R : Room} {s : State} {m : MethodId} {args : Array Value} {below : List Frame} {meth : Method} {c : Code} {H : Heap} {locs : List Loc} {cells slots : Nat} {Q : State → Prop} {pc : Nat} {ls : Array Slot} {rest : List Value}
/-- caught by the row x of this method's table -/
theorem e_catch {own name E : String} {ce : Cell} {q : Addr} (hown : s.vm.findClass own = some m.cls) (pre : List ExceptionTableEntry) (x : ExceptionTableEntry) (suf : List ExceptionTableEntry) (hsplit : c.exceptionTable.toList = pre ++ x :: suf)
    (hpass : ∀ z ∈ pre, covers z pc = false ∨ (z.catchType ≠ 0 ∧ ∃ nm : String, (Cond.classLink own z.catchType nm).before args s = true ∧ va_Nc E nm s)) (hx : covers x pc = true) (h0 : x.catchType ≠ 0)
    (hlink : (Cond.classLink own x.catchType name).before args s = true) (hcast : (Cond.castable E name).before args s = true) (hcell : H[q]? = some ce) (hv : ce.vm = .none) (hcl : s.vm.findClass E = some ce.cls)
    (kk : W p l e R s m args below meth c H locs cells slots Q (F0 m x.handlerPc ls [.ref q])) : vx_W p l e R s m args below meth c H locs cells slots Q (F0 m pc ls rest) q := by
  intro T hT X
  have hpl : e.platform.magicAccessors = ({} : Platform).magicAccessors := by rw [X.admits.platform]
  obtain ⟨c3, c4, hc3, hc4, hasg⟩ := Cond.castable_spec hcast
  cases Option.some.inj (hc3.symm.trans hcl)
  obtain ⟨c5, hc5, hcl5⟩ := Cond.classLink_spec hown hlink e.platform hpl
  cases Option.some.inj (hc4.symm.trans hc5)
  have hk0 : ∃ k, s.vm.classes[ce.cls]? = some k := by obtain ⟨k9, h9, -⟩ := Vm.findClass_spec hcl; exact ⟨k9, h9⟩
  obtain ⟨vm', hW', hq⟩ := e_rows (e := e) (s₀ := s) (f := F0 m pc ls rest) (a := q) (cell := ce) (VmData.ne_statics_of (by rw [hv]; rfl)) hk0 x suf hx h0 hcl5 hasg pre ((T.setTop (F0 m pc ls rest)).pushFrame (.throwing q)) X.warmed (show T.heap[q]? = some ce by rw [hT]; exact hcell)
    (fun z hz => by
      rcases hpass z hz with h | ⟨hz0, nm, hl1, hn1⟩
      · exact Or.inl h
      · obtain ⟨c6, hc6, hcl6⟩ := Cond.classLink_spec hown hl1 e.platform hpl
        obtain ⟨a8, b8, h1, h2, h3⟩ := hn1
        cases Option.some.inj (h1.symm.trans hcl)
        cases Option.some.inj (h2.symm.trans hc6)
        exact Or.inr ⟨hz0, _, hcl6, h3⟩)
  have hf : e_fnd e ((T.setTop (F0 m pc ls rest)).pushFrame (.throwing q)) (F0 m pc ls rest) q (.found x.handlerPc) vm' := fun Q E d acts => by
    rw [W.findHandler_eq X.method' X.code, hsplit]
    exact hq Q E d acts
  obtain ⟨t, a1, b1⟩ := kk (T.setVm vm') hT (X.noted hW')
  refine ⟨t, ?_, b1⟩
  obtain ⟨hgo, hw⟩ := X.here.throwing (g := F0 m pc ls rest) q
  refine Steps.head hgo hw ?_
  rw [stepThread_throwing (frames_entered X.here.top _), (e_fnd_step hf).1]
  obtain ⟨g₀, hg⟩ := Option.isSome_iff_exists.mp X.here.top
  obtain ⟨r, hr⟩ := State.topJava?_eq_some.mp hg
  have hr' : (T.setVm vm').frames = .java g₀ :: r := hr
  have a2 : Steps p.tables e below ((T.setVm vm').setTop (F0 m x.handlerPc ls [.ref q])) t := a1
  rw [State.setTop_of_frames _ hr'] at a2
  rw [hr, List.tail_cons, State.pushFrame, State.setTop_of_frames _ hr]
  have e1 : ∀ (F G : List Frame), (((T.setFrames F).setVm vm').setFrames G) = (T.setVm vm').setFrames G := fun F G => by
    have h1 : (T.setFrames F).setVm vm' = (T.setVm vm').setFrames F := rfl
    rw [h1, State.setFrames_setFrames]
  rw [State.setFrames_setFrames, e1]
  exact a2
end CAT
/-! ===== a frame of the law: a road without steps' numbers ===== -/
abbrev eAm : Type := Program × Launch × Env × Room × State × MethodId × Array Value × List Frame × Method × Code × (State → Prop) × eW
def e_nh (q : Nat × eI) : Bool := match q.2.1 with
  | .invokestatic _ => !(decide (79 ≤ q.2.2.2.1 ∧ q.2.2.2.1 ≤ 83))
  | _ => true
/-- the rows of a method of the law, but calls of its five -/
def e_OkL (i : Nat) : Prop := ∀ (pc : Nat) (q : eI), (pc, q) ∈ (e_m i).2.2.2.2 → e_nh (pc, q) = true → decode (e_m i).2.1 pc = .ok (q.1, q.2.1) ∧ ∃ p, e_okI "TierMillLaw" (e_m i).1.name pc q p = true
theorem e_OkL_c {i n k : Nat} {ps : List (List Nat)} (h : e_okD "TierMillLaw" (e_m i).1.name (e_m i).2.1 ((((e_m i).2.2.2.2.drop n).take k).filter e_nh) ps = true) {pc : Nat} {q : eI} (hm : (pc, q) ∈ (e_m i).2.2.2.2.drop n) (hn : e_nh (pc, q) = true) : (decode (e_m i).2.1 pc = .ok (q.1, q.2.1) ∧ ∃ p, e_okI "TierMillLaw" (e_m i).1.name pc q p = true) ∨ (pc, q) ∈ (e_m i).2.2.2.2.drop (n + k) := by
  rw [← List.take_append_drop k ((e_m i).2.2.2.2.drop n), List.drop_drop] at hm
  rcases List.mem_append.mp hm with h1 | h1
  · exact Or.inl (e_okD_f h (List.mem_filter.mpr ⟨h1, hn⟩))
  · exact Or.inr h1
def e_Amb (a : eAm) (i d : Nat) (Q : eQ) : Prop := match a with
  | (p, l, e, R, s, m, args, below, meth, c, Qf, w) =>
    (∀ i, i < 79 → e_Ok i) ∧ (∀ j, j < 79 → e_OkM j) ∧ e_OkL i ∧ (p.tables.exec = Jvm.exec ∧ c.code = (e_m i).2.1 ∧ c.maxLocals = (e_m i).2.2.1 ∧ s.vm.findClass "TierMillLaw" = some m.cls ∧ (∀ v ∈ e_big, v.before args s = true)) ∧ (meth.name = (e_m i).1.name ∧ meth.locks = false ∧ meth.sig.returnType = (e_m i).2.2.2.1) ∧ (e_G w s ∧ e_D s ∧ l.stackTraces = false) ∧ (d + 1 ≤ R.frames ∧ 64 * (d + 1) ≤ R.locals) ∧
    (∀ (H : Heap) (locs : List Loc) (cells slots : Nat) (g : JFrame), W p l e R s m args below meth c H locs cells slots (MQ below (e_Qc w (e_nr Q)) args s R.cells R.slots (e_A w)) g → W p l e R s m args below meth c H locs cells slots Qf g)
def e_W (a : eAm) (i kc ks pc : Nat) (lv : eL) (st : List Value) (M : eM) : Prop := match a with
  | (p, l, e, R, s, m, args, below, meth, c, Qf, w) => ∀ (H : Heap) (locs : List Loc) (cells slots : Nat) (ls : Array Slot), e_H w M s H → va_S (e_A w) s.heap H locs → cells + kc ≤ R.cells → slots + ks ≤ R.slots → lv_has ls (e_m i).2.2.1 (lv.map (e_cq w)) → W p l e R s m args below meth c H locs cells slots Qf (F0 m pc ls (st.map (e_cv w)))
def e_F (a : eAm) (i d kc ks pc : Nat) (lv : eL) (st : List Value) (M : eM) (Q : eQ) : Prop := e_Amb a i d Q → e_W a i kc ks pc lv st M
theorem e_F.less {a : eAm} {i d kc ks pc : Nat} {lv lv2 : eL} {st : List Value} {M : eM} {Q : eQ} (h : e_F a i d kc ks pc lv st M Q) (hs : e_sub lv lv2) : e_F a i d kc ks pc lv2 st M Q := by
  intro A
  have h := h A
  obtain ⟨p, l, e, R, s, m, args, below, meth, c, Qf, w⟩ := a
  intro H locs cells slots ls hH hS hc hss hl
  refine h H locs cells slots ls hH hS hc hss ⟨hl.1, hl.2.1, fun q hq => hl.2.2 q ?_⟩
  · obtain ⟨x, hx, rfl⟩ := List.mem_map.mp hq
    exact List.mem_map.mpr ⟨x, hs x hx, rfl⟩
set_option maxHeartbeats 1000000 in
theorem e_stF {a : eAm} {i d kc ks pc : Nat} {lv : eL} {st : List Value} {M : eM} {Q : eQ} {q : eI} (hq : e_dec i pc = some q) (hn : e_nh (pc, q) = true := by rfl)
    (h : e_ins (e_m i).2.2.1 (fun kc' ks' pc' lv' st' M' => e_F a i d kc' ks' pc' lv' st' M' Q) (fun j mc ms av M' K => ∃ d', d = d' + 1 ∧ j < 79 ∧ e_nf j = true ∧ (lg_sl av).length ≤ (e_m j).2.2.1 ∧ e_C j d' mc ms av M' K) Q (e_m i).2.2.2.1 kc ks pc q lv st M) : e_F a i d kc ks pc lv st M Q := by
  intro A
  have A0 := A
  obtain ⟨p, l, e, R, s, m, args, below, meth, c, Qf, w⟩ := a
  obtain ⟨hOk, hOkM, hL, ⟨hx, hb, hml, ho, hts⟩, ⟨hnm, hlo, hret⟩, ⟨hG, hD, hst⟩, ⟨hf, hlc⟩, hmq⟩ := A
  intro H locs cells slots ls hH hS hc hs hl
  obtain ⟨hdg, ps1, hok1⟩ := hL pc q (e_dec_mem (i := i) hq) hn
  have hgo : e_Go p l e R s m args below meth c Qf w (e_m i).2.2.1 (fun kc' ks' pc' lv' st' M' => e_F (p, l, e, R, s, m, args, below, meth, c, Qf, w) i d kc' ks' pc' lv' st' M' Q) := fun kc ks pc lv st M h => h A0
  have hcal : e_Cal l R w (fun j mc ms av M' K => ∃ d', d = d' + 1 ∧ j < 79 ∧ e_nf j = true ∧ (lg_sl av).length ≤ (e_m j).2.2.1 ∧ e_C j d' mc ms av M' K) := by
    intro j mc ms av M' K hK
    obtain ⟨d', rfl, hj, hnf, hlen, hC⟩ := hK
    exact ⟨d', e_C.met hOk hOkM l w hj hnf hlen hC, by omega, by omega⟩
  exact e_one hOkM hx hb hml hgo hH hS hc hs hl hG hts ho hnm hcal ⟨by omega, by omega⟩ hlo hret hmq (fun x a b z e h1 => absurd h1 (by simp [e_thn])) hdg hok1 h
