/-- the words of 'throw new X("text")', where X's own constructor has other bytes than its SUPERs' -/
def e_atx (own : String) (ic : Nat) (X Y : String) (ix : Nat) (rx : ByteArray) (names : List String) : List Cond :=
  Bundle.throwableAtoms ++ Bundle.throwableSAtoms ++ (Bundle.passSAtoms X Y ix rx ++ Bundle.chainSAtoms Y names) ++
  [.methodLink own ic (Bundle.initS X), .instantiable X 6, .castable X X, .selects X Bundle.tFill0 Bundle.tFill0, .selects X Bundle.tFill Bundle.tFill,
   .lays X Bundle.tN "cause" "Ljava/lang/Throwable;", .lays X Bundle.tN "stackTrace" Bundle.steD, .lays X Bundle.tN "suppressedExceptions" Bundle.listD, .lays X Bundle.tN "detailMessage" "Ljava/lang/String;",
   .isRef (.static Bundle.tN "UNASSIGNED_STACK" Bundle.steD), .isRef (.static Bundle.tN "SUPPRESSED_SENTINEL" Bundle.listD),
   .fieldLink Bundle.tN 198 Bundle.tN "backtrace" "Ljava/lang/Object;", .lays Bundle.tN Bundle.tN "backtrace" "Ljava/lang/Object;", .lays X Bundle.tN "backtrace" "Ljava/lang/Object;"]
section ECT
variable {p : Program} {l : Launch} {e : Env} {R : Room} {s : State} {m₀ : MethodId} {args : Array Value} {below : List Frame} {meth : Method} {c : Code} {W : State} {locs : List Loc} {cells slots : Nat}
set_option maxHeartbeats 1000000 in
theorem e_ctor (X : Stand p l e R s m₀ args below meth c W locs cells slots) (hexec : p.tables.exec = Jvm.exec) (htr : e.platform.stackTraces = false) {own cls sup : String} {names : List String} {ic ix : Nat} {rx : ByteArray}
    (x0 : decode rx 0 = .ok (.aload_n 0, 1)) (x1 : decode rx 1 = .ok (.aload_n 1, 1)) (x2 : decode rx 2 = .ok (.invokespecial ix, 3)) (x5 : decode rx 5 = .ok (.return_, 1))
    (hown : s.vm.findClass own = some m₀.cls) (hcls : Bundle.fit cls = true) (hsup : Bundle.fit sup = true) (hnames : ∀ n ∈ names, Bundle.fit n = true)
    (h : ∀ a ∈ e_atx own ic cls sup ix rx names, a.before args s = true)
    (hlocs : ∀ x ∈ locs, ∀ cell, s.heap[x.base]? = some cell → cell.vm.isStatics = false)
    {a : Addr} {cX : ClassId} {kX : Class} (hfoundX : s.vm.findClass cls = some cX) (hkX : s.vm.classes[cX]? = some kX) (hcell : W.heap[a]? = some (freshCell cX kX)) (hnew : s.heap.size ≤ a)
    {msg : Value} (hmsg : msg.isRef = true)
    {g : JFrame} (hg : g.method = m₀) (hsize : g.locals.size = c.maxLocals) (hlocked : g.locked = none) (hentered : g.entered = []) {rest : List Value} (hstack : g.stack = msg :: .ref a :: .ref a :: rest)
    (hd6 : decode c.code g.pc = .ok (.invokespecial ic, 3)) (hd9 : decode c.code (g.pc + 3) = .ok (.athrow, 1)) (hout : ∀ x ∈ c.exceptionTable.toList, covers x (g.pc + 3) = false)
    (hRframes : names.length + 4 < R.frames) (hRlocals : 2 * g.monitorRoom + ((Value.ref a :: rest).map fun v => v.category).sum + (13 * (names.length + 2) + 42) ≤ R.locals) (hlocks : meth.locks = false) :
    ∃ U : State, Steps p.tables e below (W.setTop g) U ∧ U.status = .running ∧ Ended U below (.threw a) ∧ s.WarmedH U.vm ∧ s.sameButNew ({ U with vm := s.vm } : State) locs cells slots ∧
      ∃ ce, U.heap[a]? = some ce ∧ s.vm.findClass cls = some ce.cls ∧ ce.vm = .none := by
  have howns : e.platform.frameOwnsMonitors = true := by rw [X.admits.platform]
  have hfin : e.platform.finalization = false := by rw [X.admits.platform]
  have hpl : e.platform.magicAccessors = ({} : Platform).magicAccessors := by rw [X.admits.platform]
  have a' : ∀ x, x ∈ e_atx own ic cls sup ix rx names → x.holds args s none s [] = true := fun x hx => h x hx
  obtain ⟨T, Z0, L, -, Y⟩ := ThrowableC.of_atoms (args := args) howns hfin hpl (fun x hx => h x (by simp [e_atx, hx]))
  obtain ⟨Z, M, LZ, LM, hnZ⟩ := Init0T.ofS_atoms (args := args) hpl L Y (fun x hx => h x (by simp [e_atx, hx]))
  obtain ⟨P1, L1, hP1m, hP1s⟩ := PassC.ofS_atoms (args := args) (s := s) hpl (X := cls) (Y := sup) (Bundle.fit_spec hcls).1 (Bundle.fit_spec hsup).2 x0 x1 x2 x5 (fun x hx => h x (by simp [e_atx, hx]))
  obtain ⟨P2, Ps, hlen, L2, hL, hP2m, hlink2, hlink⟩ := Bundle.chainS (args := args) hpl hnZ names sup hsup hnames (fun x hx => h x (by simp [e_atx, hx]))
  have hfound : s.vm.findClass cls = some P1.m.cls := findClass_of_methodNamed hP1m
  cases Option.some.inj (hfoundX.symm.trans hfound)
  obtain ⟨c1, kX', hc1, hk, hord, -, -, hn6⟩ := Cond.instantiable_spec (a' (.instantiable cls 6) (by simp [e_atx]))
  cases Option.some.inj (hc1.symm.trans hfound)
  cases Option.some.inj (hkX.symm.trans hk)
  have hsel0 : selectMethod e.platform s.vm P1.m.cls T.fill0 = .method T.fill0 := by
    obtain ⟨c2, r2, m2, q1, q2, q3, q4, -⟩ := Cond.selects_spec (a' (.selects cls Bundle.tFill0 Bundle.tFill0) (by simp [e_atx]))
    cases Option.some.inj (q1.symm.trans hfound)
    cases Option.some.inj (q2.symm.trans (State.methodFound?_of_named Y.fill0 (by decide)))
    cases Option.some.inj (q3.symm.trans Y.fill0)
    rw [Launch.admits_selectMethod X.admits]; exact q4
  have hselF : selectMethod e.platform s.vm P1.m.cls T.fill = .method T.fill := by
    obtain ⟨c2, r2, m2, q1, q2, q3, q4, -⟩ := Cond.selects_spec (a' (.selects cls Bundle.tFill Bundle.tFill) (by simp [e_atx]))
    cases Option.some.inj (q1.symm.trans hfound)
    cases Option.some.inj (q2.symm.trans (State.methodFound?_of_named Y.fill (by decide)))
    cases Option.some.inj (q3.symm.trans Y.fill)
    rw [Launch.admits_selectMethod X.admits]; exact q4
  obtain ⟨cellS0, hcS0, hiss⟩ := Y.statics
  obtain ⟨u0, hu0⟩ := Cond.staticRefV Y.unassigned L.unassignedStatic L.statics hcS0 hiss (a' (.isRef (.static Bundle.tN "UNASSIGNED_STACK" Bundle.steD)) (by simp [e_atx]))
  obtain ⟨sen, hsen⟩ := Cond.staticRefV Y.sentinel L.sentinelStatic L.statics hcS0 hiss (a' (.isRef (.static Bundle.tN "SUPPRESSED_SENTINEL" Bundle.listD)) (by simp [e_atx]))
  obtain ⟨ci198, i198, fB, hk198, hg198, ha198, hsB, -, hnB, htB, hffB⟩ := Cond.ownField (t := .object "java/lang/Object") Y.found L.cls (by decide +kernel) (a' (.fieldLink Bundle.tN 198 Bundle.tN "backtrace" "Ljava/lang/Object;") (by simp [e_atx])) (a' (.lays Bundle.tN Bundle.tN "backtrace" "Ljava/lang/Object;") (by simp [e_atx])) e.platform hpl
  obtain ⟨cellS, hcS', heS, -, hkeep⟩ := X.same.2.2.2.2.2 T.aS cellS0 hcS0
  have hcellS : W.heap[T.aS]? = some cellS := hcS'
  have hout' : ∀ i, (⟨T.aS, i⟩ : Loc) ∉ locs := fun i hmem => by
    have := hlocs _ hmem cellS0 hcS0
    rw [hiss] at this; cases this
  have hknownS : cellS.vm ≠ .unknown := by
    rw [heS]; intro hu
    rw [show cellS0.vm = .unknown from hu] at hiss
    cases hiss
  have hneS : T.aS ≠ a := Nat.ne_of_lt (Nat.lt_of_lt_of_le (Array.getElem?_eq_some_iff.mp hcS0).1 hnew)
  obtain ⟨iM, hffM⟩ := Y.msg
  obtain ⟨tyC, dC, hdC, hdnC⟩ := Cond.laysAt hfound hk Y.cause (a' (.lays cls Bundle.tN "cause" "Ljava/lang/Throwable;") (by simp [e_atx]))
  obtain ⟨tyS, dS, hdS, hdnS⟩ := Cond.laysAt hfound hk Y.stack (a' (.lays cls Bundle.tN "stackTrace" Bundle.steD) (by simp [e_atx]))
  obtain ⟨tyP, dP, hdP, hdnP⟩ := Cond.laysAt hfound hk Y.supp (a' (.lays cls Bundle.tN "suppressedExceptions" Bundle.listD) (by simp [e_atx]))
  obtain ⟨tyM, dM, hdM, hdnM⟩ := Cond.laysAt hfound hk hffM (a' (.lays cls Bundle.tN "detailMessage" "Ljava/lang/String;") (by simp [e_atx]))
  obtain ⟨tyB, dB, hdB, hdnB⟩ := Cond.laysAt hfound hk hffB (a' (.lays cls Bundle.tN "backtrace" "Ljava/lang/Object;") (by simp [e_atx]))
  have bC := Cond.laysApart hdB hdC hdnB hdnC (by rw [hnB, Y.causeName]; decide)
  have bS := Cond.laysApart hdB hdS hdnB hdnS (by rw [hnB, Y.stackName]; decide)
  have bP := Cond.laysApart hdB hdP hdnB hdnP (by rw [hnB, Y.suppName]; decide)
  have hskip : SkipFacts T e.platform s (fun u => u) u0 ((preparedCellV T.toThrowableT (freshCell P1.m.cls kX) a u0 sen).withEntry W.cur) :=
    ⟨{ ci198 := ci198, i198 := i198, fBack := fB }, ⟨hk198, hg198, ha198, hsB⟩, by
      have := fresh_default (c := P1.m.cls) tyB
      rw [htB] at this
      simpa [preparedCellV, Cell.setSlot, Cell.withEntry, Array.getElem?_setIfInBounds, bC, bS, bP, bC.symm, bS.symm, bP.symm, defaultValue] using this, fun _ _ => rfl⟩
  obtain ⟨tm, methC, cdC, kC, vm₁, hnC, -, -, -, -, -, -, -, hW₁, st1⟩ := Steps.initColdS (tb := p.tables) (e := e) (below := below) (s := s) (U := W) X.here hexec X.warmed hpl hown (t := Bundle.initS cls) rfl rfl (Bundle.fit_spec hcls).2
    (a' (.methodLink own ic (Bundle.initS cls)) (by simp [e_atx])) (h (.instanceMethod (Bundle.initS cls)) (by simp [e_atx, Bundle.passSAtoms])) (bytes := rx) (maxL := 2) (h (.code (Bundle.initS cls) rx 2 none) (by simp [e_atx, Bundle.passSAtoms]))
    (f := g) hg (a := a) (msg := msg) (rest := .ref a :: rest) hstack hd6
  cases Option.some.inj (hnC.symm.trans hP1m)
  have X₁ := X.noted hW₁
  obtain ⟨vm₂, X₂, st2⟩ := X₁.ctorMessageOffV hexec (g := { g with stack := .ref a :: rest }) hg hsize T L Z LZ M LM (P1 :: P2 :: Ps)
    (fun P hP => by
      rcases List.mem_cons.mp hP with rfl | hP
      · exact L1
      · rcases List.mem_cons.mp hP with rfl | hP
        · exact L2
        · exact hL P hP) ⟨Option.some.inj (hP1s.symm.trans hP2m), hlink2, hlink⟩ (u0 := u0) (sen := sen) (self := a) hmsg (cell := freshCell P1.m.cls kX) (cellS := cellS)
    hcell (fun _ => by simp) (by simp) rfl rfl hsel0 hselF hcellS hneS hknownS (by rw [hkeep _ (hout' _)]; exact hu0) (by rw [hkeep _ (hout' _)]; exact hsen)
    (Takes.of_laid hk hord tyC (by rw [Y.causeType]; rfl)) (Takes.of_laid hk hord tyS (by rw [Y.stackType]; exact fits_refV_array _ u0)) (Takes.of_laid hk hord tyP (by rw [Y.suppType]; exact fits_refV_object _ sen))
    (Takes.of_laid hk hord tyM (by rw [Y.msgType]; exact fits_refV_object _ ⟨msg, hmsg⟩)) Y.objLocals hskip htr [] hd6
    (by simp only [List.length_cons, hlen]; omega) (by simp only [List.length_cons, hlen]; exact hRlocals)
  obtain ⟨hwalk, hrun, hended, hWU, hsame⟩ := X₂.athrowLeaves hexec (g := { g with stack := .ref a :: rest, pc := g.pc + 3 }) hg hlocked hentered hout (a := a) (rest := rest) rfl hd9
  have hlt : a < ((W.setVm vm₁).setVm vm₂).heap.size := (Array.getElem?_eq_some_iff.mp hcell).1
  have hU := heapAt_setCell_self (s := (W.setVm vm₁).setVm vm₂) (plainBareV T.toThrowableT (freshCell P1.m.cls kX) a u0 sen msg) hlt
  refine ⟨_, st1 _ (fun acts => ?_), hrun, hended, hWU, hsame.weaken (fun y hy hlt' => ?_) (Nat.le_refl _) (Nat.le_refl _), _, hU, hfound, rfl⟩
  · rw [doInvoke_state]
    exact st2 _ hwalk
  · rcases List.mem_append.mp hy with h1 | h1
    · exact h1
    · exfalso
      have hb : y.base = a := by
        simp only [List.mem_cons, List.not_mem_nil, or_false] at h1
        rcases h1 with rfl | rfl | rfl | rfl | rfl <;> rfl
      rw [hb] at hlt'
      exact Nat.not_lt.mpr hnew hlt'
end ECT
section ETH
variable {p : Program} {l : Launch} {e : Env} {R : Room} {s : State} {m : MethodId} {args : Array Value} {below : List Frame} {meth : Method} {c : Code} {H : Heap} {locs : List Loc} {cells slots : Nat}
variable {free : Addr → Prop} {ls : Array Slot} {Qc : Array Value → State → Outcome → State → Prop} {XC : String → State → State → Prop}
theorem e_throw {cc : ByteArray} {pc : Nat} (hexec : p.tables.exec = Jvm.exec) (hb : c.code = cc) (hl : l.stackTraces = false) {own cls sup text : String} {names : List String} {ik is ic ix k mc ms sa : Nat} {rx : ByteArray} {A : Nat → Prop}
    (x0 : decode rx 0 = .ok (.aload_n 0, 1)) (x1 : decode rx 1 = .ok (.aload_n 1, 1)) (x2 : decode rx 2 = .ok (.invokespecial ix, 3)) (x5 : decode rx 5 = .ok (.return_, 1))
    (hown : s.vm.findClass own = some m.cls) (hcls : Bundle.fit cls = true) (hsup : Bundle.fit sup = true) (hnames : ∀ n ∈ names, Bundle.fit n = true)
    (hk : (Cond.classLink own ik cls).before args s = true) (hini : (Cond.initialized cls).before args s = true) (hstr : vk_R own is text sa s) (hat : ∀ w ∈ (e_atx own ic cls sup ix rx names).filter vx_no, w.before args s = true)
    (hgood : ∀ w ∈ Cond.classLink own ik cls :: Cond.initialized cls :: (e_atx own ic cls sup ix rx names).filter vx_no, vx_ot w = true)
    (hU : vx_Zq Bundle.tN "UNASSIGNED_STACK" Bundle.steD A s H) (hN : vx_Zq Bundle.tN "SUPPRESSED_SENTINEL" Bundle.listD A s H) (hsize : ls.size = c.maxLocals)
    (d0 : decode cc pc = .ok (.new ik, 3)) (d3 : decode cc (pc + 3) = .ok (.dup, 1)) (d4 : (k = 2 ∧ decode cc (pc + 4) = .ok (.ldc is, 2)) ∨ (k = 3 ∧ decode cc (pc + 4) = .ok (.ldc_w is, 3))) (d6 : decode cc (pc + 4 + k) = .ok (.invokespecial ic, 3)) (d9 : decode cc (pc + 4 + k + 3) = .ok (.athrow, 1))
    (hout : ∀ x ∈ c.exceptionTable.toList, False)
    (hRframes : names.length + 4 < R.frames) (hRlocals : 13 * (names.length + 2) + 43 ≤ R.locals) (hRcells : cells + 1 ≤ R.cells) (hRslots : slots + 6 ≤ R.slots) (hlocks : meth.locks = false)
    (hx : ∀ t : State, s.vm.Alike t.vm → H.size ≤ t.heap.size → (∀ q : Nat, q < H.size → t.heap[q]? = H[q]?) → XC cls s t)
    (hf : ∀ z ∈ locs, free z.base) (hc : cells + 1 ≤ mc) (hs : slots + 6 ≤ ms) :
    W p l e R s m args below meth c H locs cells slots (vx_MQ below Qc XC args s mc ms free) (F0 m pc ls []) := by
  intro T hT X
  have htr : e.platform.stackTraces = false := (show e.platform.stackTraces = l.stackTraces by rw [X.admits.platform]).trans hl
  have Y := vx_rebase X (R' := { frames := R.frames, locals := R.locals, cells := 1, slots := 6 }) (Nat.le_refl _) (Nat.le_refl _) hRcells hRslots
  obtain ⟨s', hA⟩ : ∃ z, z = (T.setVm s.vm).setFrames (.invoking m args :: below) := ⟨_, rfl⟩
  rw [← hA] at Y
  have hvm : s'.vm = s.vm := by rw [hA]; rfl
  have hhp : s'.heap = H := by rw [hA]; exact hT
  have hW0 : s.WarmedH s'.vm := by rw [hvm]; exact State.WarmedH.refl s
  have hat' : ∀ w ∈ (e_atx own ic cls sup ix rx names).filter vx_no, w.before args s' = true := fun w hw => vx_ot_at hW0 hvm.symm (hgood w (List.mem_cons_of_mem _ (List.mem_cons_of_mem _ hw))) (hat w hw)
  have hk' : (Cond.classLink own ik cls).before args s' = true := vx_ot_at hW0 hvm.symm (hgood _ List.mem_cons_self) hk
  have hini' : (Cond.initialized cls).before args s' = true := vx_ot_at hW0 hvm.symm (hgood _ (List.mem_cons_of_mem _ List.mem_cons_self)) hini
  have hU' : vx_Zq Bundle.tN "UNASSIGNED_STACK" Bundle.steD A s' s'.heap := by rw [hhp]; exact vx_Zq.moved hW0.alike hU
  have hN' : vx_Zq Bundle.tN "SUPPRESSED_SENTINEL" Bundle.listD A s' s'.heap := by rw [hhp]; exact vx_Zq.moved hW0.alike hN
  have h : ∀ w ∈ e_atx own ic cls sup ix rx names, w.before args s' = true := vx_own hat' (vx_isRefq hU'.1) (vx_isRefq hN'.1) hU'.2.word hN'.2.word
  have hown' : s'.vm.findClass own = some m.cls := by rw [hvm]; exact hown
  have hins : (Cond.instantiable cls 6).before args s' = true := h _ (by simp [e_atx])
  obtain ⟨vm₁, cX, kX, hfX, hkX, -, -, X₁, st1⟩ := Y.newCold hexec (own := own) (C := cls) (index := ik) (n := 6) hown' hk' hins hini'
    (g := F0 m pc ls []) rfl (by rw [hb]; exact d0) (Nat.le_refl _) (Nat.le_refl _)
  generalize hT1 : (T.setVm vm₁).pushCell { cls := cX, slots := kX.instanceTypes.map defaultValue, vm := .none } = T1 at X₁ st1
  have hcat : (Value.ref T.heap.size).category = 1 := rfl
  have hcellA : T1.heap[T.heap.size]? = some (freshCell cX kX) := by rw [← hT1]; exact State.heap_pushCell_size _ _
  have d3' : decode c.code (pc + 3) = .ok (.dup, 1) := by rw [hb]; exact d3
  have hstr' : vk_R own is text sa s' := vk_R.warm hW0 hstr
  obtain ⟨U, hsteps, hrun, hend, hW, hsame, ce, hce, hcl0, hv0⟩ := e_ctor X₁ hexec htr x0 x1 x2 x5 (own := own) (cls := cls) (sup := sup) (names := names) (ic := ic) hown' hcls hsup hnames h (fun x hx => nomatch hx) hfX hkX hcellA (by rw [hhp, hT]; exact Nat.le_refl _) (msg := .ref sa) rfl
    (g := { method := m, pc := pc + 4 + k, locals := ls, stack := .ref sa :: .ref T.heap.size :: .ref T.heap.size :: [], locked := none }) rfl hsize rfl rfl (rest := []) rfl
    (by rw [hb]; exact d6) (by rw [hb]; exact d9) (fun x hx => False.elim (hout x hx)) hRframes (by simp only [List.map_cons, List.map_nil, List.sum_cons, List.sum_nil, hcat]; omega) hlocks
  obtain ⟨f1, f2⟩ := vx_frame hsame
  rw [hhp] at f1 f2
  have hWs : s.WarmedH U.vm := State.WarmedH.trans hW0 hW
  have hcl : s.vm.findClass cls = some ce.cls := by rw [hvm] at hcl0; exact hcl0
  have hall : s.sameButNew ({ U with vm := s.vm } : State) locs mc ms := by
    subst hA
    obtain ⟨e1, e2⟩ := hsame
    rw [State.setFrames_setFrames] at e1
    have h2 : (T.setVm s.vm).sameButNew ({ U with vm := s.vm } : State) [] (0 + 1) (0 + 6) := ⟨e1, e2⟩
    have h3 := X.same.trans h2
    rw [List.append_nil] at h3
    exact h3.mono hc hs
  refine ⟨U, ?_, .threw T.heap.size, hrun, hend, Or.inr ⟨T.heap.size, rfl, cls, ce, locs, hx U hWs.alike f1 (fun q hq => f2 q hq (fun z hz => nomatch hz)), hce, hv0, hcl, hWs, hall, hf⟩⟩
  refine st1 _ ?_
  show Steps p.tables e below (T1.setTop { method := m, pc := pc + 3, locals := ls, stack := .ref T.heap.size :: [], locked := none }) _
  jvm_step X₁.here [X₁.here.top, hexec, d3', Value.category]
  rcases d4 with ⟨rfl, d4⟩ | ⟨rfl, d4⟩
  · exact X₁.ldcString hexec (own := own) (text := text) (index := is) (a := sa) hown' hstr'.1 hstr'.2
      (g := { method := m, pc := pc + 4, locals := ls, stack := .ref T.heap.size :: .ref T.heap.size :: [], locked := none }) rfl (by rw [hb]; exact d4) _ hsteps
  · exact X₁.ldcStringW hexec (own := own) (text := text) (index := is) (a := sa) hown' hstr'.1 hstr'.2
      (g := { method := m, pc := pc + 4, locals := ls, stack := .ref T.heap.size :: .ref T.heap.size :: [], locked := none }) rfl (by rw [hb]; exact d4) _ hsteps
end ETH
/-! ===== the five methods that throw ===== -/
def e_exn (a : Nat) : String := if a = 91 then "java/lang/IllegalArgumentException" else if a = 92 then "java/lang/IllegalStateException" else if a = 93 then "java/lang/ArithmeticException" else "java/util/NoSuchElementException"
def e_rx13 : ByteArray := ⟨#[0x2a, 0x2b, 0xb7, 0x00, 0x0d, 0xb1]⟩
/-- of each exception: its number, the places of its class and of its constructor in TierMill's pool, the place of its SUPER's constructor in its own, its constructor's bytes -/
def e_xs : List (Nat × Nat × Nat × Nat × ByteArray) := [(91, 90, 94, 7, Bundle.six), (92, 187, 191, 7, Bundle.six), (93, 196, 200, 7, Bundle.six), (94, 226, 230, 13, e_rx13)]
def e_xat (q : Nat × Nat × Nat × Nat × ByteArray) : List Cond := (e_atx "TierMill" q.2.2.1 (e_exn q.1) "java/lang/RuntimeException" q.2.2.2.1 q.2.2.2.2 ["java/lang/Exception"]).filter vx_no
/-- words that the tables alone decide -/
def e_dw : List Cond := e_xs.flatMap fun q => (e_xat q).filter (fun w => !goodWord w)
def e_isdc : Cond → Bool
  | .declares _ => true
  | .castable _ _ => true
  | _ => false
theorem e_dw_dc : e_dw.all e_isdc = true := by decide +kernel
def e_D (U : State) : Prop := ∀ v ∈ e_dw, va_Nw v U
theorem e_D.warm {s U : State} (hW : s.WarmedH U.vm) (h : e_D s) : e_D U := by
  intro v hv
  have h1 := h v hv
  have h2 := List.all_eq_true.mp e_dw_dc v hv
  cases v with
  | declares x => exact va_Nw.warmD hW h1
  | castable a b => exact va_Nw.warmC hW h1
  | _ => cases h2
theorem e_D.same {s U : State} (hvm : s.vm = U.vm) (h : e_D s) : e_D U := by
  intro v hv
  have h1 := h v hv
  have h2 := List.all_eq_true.mp e_dw_dc v hv
  cases v with
  | declares x => exact va_Nw.same rfl hvm h1
  | castable a b => exact va_Nw.same rfl hvm h1
  | _ => cases h2
theorem e_D.use {s : State} {args : Array Value} (h : e_D s) : ∀ v ∈ e_dw, v.before args s = true := by
  intro v hv
  have h1 := h v hv
  have h2 := List.all_eq_true.mp e_dw_dc v hv
  cases v with
  | declares x => exact va_Nw.use rfl h1
  | castable a b => exact va_Nw.use rfl h1
  | _ => cases h2
def e_xw (q : Nat × Nat × Nat × Nat × ByteArray) : List Cond := Cond.classLink "TierMill" q.2.1 (e_exn q.1) :: Cond.initialized (e_exn q.1) :: e_xat q
def e_xok (q : Nat × Nat × Nat × Nat × ByteArray) : Bool := ((e_xw q).filter goodWord).all (fun v => e_big.contains v) && ((e_xw q).all vx_ot && (Bundle.fit (e_exn q.1) && (goodWord (Cond.classLink "TierMill" q.2.1 (e_exn q.1)) && goodWord (Cond.initialized (e_exn q.1)))))
theorem e_xok_all : e_xs.all e_xok = true := by decide +kernel
theorem e_xok_f {q : Nat × Nat × Nat × Nat × ByteArray} (hq : q ∈ e_xs) : (∀ w ∈ e_xw q, goodWord w = true → w ∈ e_big) ∧ (∀ w ∈ e_xw q, vx_ot w = true) ∧ Bundle.fit (e_exn q.1) = true ∧ Cond.classLink "TierMill" q.2.1 (e_exn q.1) ∈ e_big ∧ Cond.initialized (e_exn q.1) ∈ e_big ∧ ∀ w ∈ e_xat q, goodWord w = false → w ∈ e_dw := by
  have h := List.all_eq_true.mp e_xok_all q hq
  unfold e_xok at h
  simp only [Bool.and_eq_true, List.all_eq_true, List.contains_iff_mem, List.mem_filter] at h
  obtain ⟨h1, h2, h3, h4, h5⟩ := h
  refine ⟨fun w hw hg => h1 w ⟨hw, hg⟩, h2, h3, h1 _ ⟨List.mem_cons_self, h4⟩, h1 _ ⟨List.mem_cons_of_mem _ List.mem_cons_self, h5⟩, fun w hw hg => ?_⟩
  exact List.mem_flatMap.mpr ⟨q, hq, List.mem_filter.mpr ⟨hw, by rw [hg]; rfl⟩⟩
def e_XC (w : eW) (Q : eQ) : String → State → State → Prop := fun E st t => (∃ (a : Nat) (M : eM) (g : Nat), 91 ≤ a ∧ a ≤ 94 ∧ E = e_exn a ∧ Q (some (.retAddr a)) M ∧ e_H w (e_gap M g) t t.heap) ∧ va_F (e_A w) st t
def e_PcD (w : eW) (av : List Value) (M : eM) : Array Value → State → Prop := va_Pc (av.map (e_cv w)) (fun U => e_G w U ∧ e_D U ∧ e_H w M U U.heap)
theorem e_PcD_blind (w : eW) (av : List Value) (M : eM) : FrameBlind (e_PcD w av M) := fun a U g mk q => ⟨q.1, e_G.same (s := U) rfl q.2.1, e_D.same (s := U) rfl q.2.2.1, e_H.moved (Vm.Alike.refl U.vm) q.2.2.2⟩
/-- where the throws are: method, place, which, the text's place, the length of the ldc -/
def e_sites : List (Nat × Nat × Nat × Nat × Nat) := [(26, 121, 91, 92, 2), (34, 12, 91, 182, 2), (34, 33, 92, 189, 2), (34, 58, 93, 198, 2), (37, 22, 94, 228, 2), (39, 26, 94, 250, 2), (40, 50, 94, 263, 3), (40, 89, 94, 265, 3), (40, 144, 94, 280, 3)]
def e_isNew : Instr → Nat → Bool
  | .new _, a => decide (91 ≤ a ∧ a ≤ 94)
  | _, _ => false
def e_dcd (i pc : Nat) (ins : Instr) (len : Nat) : Bool := decide (decode (e_m i).2.1 pc = .ok (ins, len))
/-- a site's rows, with its exception's numbers -/
def e_siteOk (z : Nat × Nat × Nat × Nat × Nat) (q : Nat × Nat × Nat × Nat × ByteArray) : Bool :=
  e_dcd z.1 z.2.1 (.new q.2.1) 3 && (e_dcd z.1 (z.2.1 + 3) .dup 1 && ((if z.2.2.2.2 = 2 then e_dcd z.1 (z.2.1 + 4) (.ldc z.2.2.2.1) 2 else decide (z.2.2.2.2 = 3) && e_dcd z.1 (z.2.1 + 4) (.ldc_w z.2.2.2.1) 3) && (e_dcd z.1 (z.2.1 + 4 + z.2.2.2.2) (.invokespecial q.2.2.1) 3 && (e_dcd z.1 (z.2.1 + 4 + z.2.2.2.2 + 3) .athrow 1 && (decide (q.1 = z.2.2.1) && e_strs.any (fun t => t.1 == z.2.2.2.1))))))
theorem e_sites_ok : e_sites.all (fun z => e_xs.any (e_siteOk z)) = true := by decide +kernel
def e_fiv : List Nat := [26, 34, 37, 39, 40]
theorem e_sites_all : e_fiv.all (fun i => (e_m i).2.2.2.2.all (fun q => !(e_isNew q.2.1 q.2.2.2.1) || e_sites.any (fun z => z.1 == i && (z.2.1 == q.1 && z.2.2.1 == q.2.2.2.1)))) = true := by decide +kernel
theorem e_fiv_ok : e_fiv.all (fun i => (e_m i).1.cls == "TierMill" && plainName (e_m i).1.cls) = true := by decide +kernel
theorem e_xs_rx : e_xs.all (fun q => decide (decode q.2.2.2.2 0 = .ok (.aload_n 0, 1)) && (decide (decode q.2.2.2.2 1 = .ok (.aload_n 1, 1)) && (decide (decode q.2.2.2.2 2 = .ok (.invokespecial q.2.2.2.1, 3)) && decide (decode q.2.2.2.2 5 = .ok (.return_, 1))))) = true := by decide +kernel
set_option maxHeartbeats 1000000 in
theorem e_metX (hOk : ∀ i, i < 79 → e_Ok i) (hOkM : ∀ j, j < 79 → e_OkM j) (l : Launch) (hst : l.stackTraces = false) (w : eW) {n j d mc ms : Nat} {av : List Value} {M : eM} {K : eQ} (hj : j ∈ e_fiv) (hd : 5 ≤ d) (hlen : (lg_sl av).length ≤ (e_m j).2.2.1) (hwp : e_wp n j d mc ms 0 (lv_args 0 av) [] M K) : vx_Met l (e_m j).1 (e_ws j) (e_rm d mc ms) (e_PcD w av M) (e_Qc w (e_nr K)) (e_XC w K) mc ms (e_A w) := by
  have hj236 : j < 79 := by
    have h5 : e_fiv.all (fun i => decide (i < 79)) = true := by decide
    simpa using List.all_eq_true.mp h5 j hj
  have hcl := List.all_eq_true.mp e_fiv_ok j hj
  rw [Bool.and_eq_true, beq_iff_eq] at hcl
  refine vx_ofW (cc := (e_m j).2.1) (maxL := (e_m j).2.2.1) (ret := (e_m j).2.2.2.1) hcl.2 rfl ?_
  intro p2 e2 s2 m2 args2 below2 meth2 c2 s₁ B hml2 htab hv
  obtain ⟨rfl, hG2, hD2, hH2⟩ := hv
  have hts2 := atoms_spec (ws := e_ws j) B.pre
  have hl2 := lv_entry (av.map (e_cv w)) (n := (e_m j).2.2.1) (by rw [e_sl_len]; exact hlen)
  rw [lg_entry_eq]
  generalize (lg_sl (av.map (e_cv w)) ++ List.replicate ((e_m j).2.2.1 - (lg_sl (av.map (e_cv w))).length) Slot.unset).toArray = ls2 at hl2 ⊢
  have hown := findClass_of_methodNamed B.named
  refine e_run hOk hOkM l w n j d K hj236 p2 e2 _ s2 m2 _ below2 meth2 c2 _ B.exec B.bytes hml2 hown (fun v hv => hts2 v (List.mem_cons_of_mem _ hv)) (name_of_methodNamed B.named B.method).1 B.notSynchronized B.returns hG2 (Nat.le_refl _) (Nat.le_refl _) ?_ (fun _ _ _ _ _ z => vx_ret z) mc ms 0 (lv_args 0 av) [] M hwp s2.heap [] 0 0 ls2 hH2 va_S.rf (by show 0 + mc ≤ mc; omega) (by show 0 + ms ≤ ms; omega) (by rw [e_args_map]; exact hl2)
  intro x a b z kc ks pc st M1 H locs cells slots ls hq _ ha hb hk h6 hQ hH hS hc hs hsz
  obtain ⟨hk1, rfl⟩ := hk
  have hm := e_dec_mem (i := j) hq
  have hall := List.all_eq_true.mp (List.all_eq_true.mp e_sites_all j hj) _ hm
  have hisn : e_isNew (.new x) a = true := by show decide (91 ≤ a ∧ a ≤ 94) = true; exact decide_eq_true ⟨ha, hb⟩
  have hall : (!(e_isNew (.new x) a) || e_sites.any (fun z => z.1 == j && (z.2.1 == pc && z.2.2.1 == a))) = true := hall
  rw [hisn] at hall
  have hall : e_sites.any (fun z => z.1 == j && (z.2.1 == pc && z.2.2.1 == a)) = true := hall
  obtain ⟨⟨zi, zp, za, zs, zk⟩, hz, hz2⟩ := List.any_eq_true.mp hall
  simp only [Bool.and_eq_true, beq_iff_eq] at hz2
  obtain ⟨rfl, rfl, rfl⟩ := hz2
  obtain ⟨q, hqx, hqs⟩ := List.any_eq_true.mp (List.all_eq_true.mp e_sites_ok _ hz)
  unfold e_siteOk at hqs
  simp only [Bool.and_eq_true, decide_eq_true_eq, e_dcd] at hqs
  obtain ⟨d0, d3, d4, d6, d9, hqa, hstr⟩ := hqs
  obtain ⟨t, ht, ht2⟩ := List.any_eq_true.mp hstr
  rw [beq_iff_eq] at ht2
  obtain ⟨sa, hsa⟩ := hG2.2.2.2.2.2.1 t ht
  rw [ht2] at hsa
  obtain ⟨w1, w2, w3, w4, w5, w6⟩ := e_xok_f hqx
  have hrx := List.all_eq_true.mp e_xs_rx q hqx
  simp only [Bool.and_eq_true, decide_eq_true_eq] at hrx
  have hD := e_D.use (args := (av.map (e_cv w)).toArray) hD2
  have hbig : ∀ v ∈ e_big, v.before (av.map (e_cv w)).toArray s2 = true := fun v hv => hts2 v (List.mem_cons_of_mem _ hv)
  refine e_throw (own := "TierMill") (cls := e_exn q.1) (sup := "java/lang/RuntimeException") (text := t.2) (names := ["java/lang/Exception"]) (ik := q.2.1) (is := zs) (ic := q.2.2.1) (ix := q.2.2.2.1) (k := zk) (rx := q.2.2.2.2) (A := e_A w) (sa := sa) B.exec B.bytes hst hrx.1 hrx.2.1 hrx.2.2.1 hrx.2.2.2
    (by rw [← hcl.1]; exact hown) w3 (by decide +kernel) (by decide +kernel) (hbig _ w4) (hbig _ w5) hsa ?_ w2 hH.2.2.2.2.2.1 hH.2.2.2.2.2.2 (hsz.trans hml2.symm) d0 d3 ?_ d6 d9 htab ?_ ?_ ?_ ?_ B.notSynchronized ?_ hS.2.2 ?_ ?_
  · intro v hv
    cases hg : goodWord v with
    | true => exact hbig _ (w1 v (List.mem_cons_of_mem _ (List.mem_cons_of_mem _ hv)) hg)
    | false => exact hD _ (w6 v hv hg)
  · by_cases h2 : zk = 2
    · rw [if_pos h2] at d4
      exact Or.inl ⟨h2, by simpa using d4⟩
    · rw [if_neg h2] at d4
      simp only [Bool.and_eq_true, decide_eq_true_eq] at d4
      exact Or.inr d4
  · show 1 + 4 < d + 1; omega
  · show 13 * (1 + 2) + 43 ≤ 64 * (d + 1); omega
  · omega
  · omega
  · intro t hal hz1 hz3
    rw [hqa]
    refine ⟨⟨za, M1, _, ha, hb, rfl, hQ, (hH.gap hz1 hz3).moved hal⟩, ?_⟩
    exact ⟨Nat.le_trans hS.1 hz1, fun q g1 g2 => by rw [hz3 q (Nat.lt_of_lt_of_le g1 hS.1)]; exact hS.2.1 q g1 g2⟩
  · show cells + 1 ≤ mc
    have : cells + kc ≤ mc := hc
    omega
  · show slots + 6 ≤ ms
    have : slots + ks ≤ ms := hs
    omega
