/-! ===== a whole method: what holds on the machine of numbered cells holds on the real one ===== -/
theorem e_sl_len (w : eW) (av : List Value) : (lg_sl (av.map (e_cv w))).length = (lg_sl av).length := by
  induction av with
  | nil => rfl
  | cons v av ih =>
    unfold lg_sl at ih ⊢
    rw [List.map_cons, List.flatMap_cons, List.flatMap_cons, List.length_append, List.length_append, ih, e_cv_cat]
    congr 1
    split <;> rfl
theorem e_args_map (w : eW) : ∀ (av : List Value) (i : Nat), (lv_args i av).map (e_cq w) = lv_args i (av.map (e_cv w))
  | [], _ => rfl
  | v :: av, i => by
    rw [List.map_cons, lv_args, lv_args, List.map_cons, e_args_map w av, e_cv_cat]
    rfl
theorem e_dec_mem {i pc : Nat} {q : eI} : ∀ {l : List (Nat × eI)}, l.lookup pc = some q → (pc, q) ∈ l
  | [], h => by simp at h
  | (j, u) :: l, h => by
    rw [List.lookup_cons] at h
    split at h
    · rename_i hb
      have := eq_of_beq hb
      subst this
      cases h
      exact List.mem_cons_self
    · exact List.mem_cons_of_mem _ (e_dec_mem (i := i) h)
set_option maxHeartbeats 1000000 in
theorem e_run (hOk : ∀ i, i < 79 → e_Ok i) (hOkM : ∀ j, j < 79 → e_OkM j) (l : Launch) (w : eW) : ∀ (n i d : Nat) (Q : eQ), i < 79 → ∀ (p : Program) (e : Env) (R : Room) (s : State) (m : MethodId) (args : Array Value) (below : List Frame) (meth : Method) (c : Code) (Qf : State → Prop), p.tables.exec = Jvm.exec → c.code = (e_m i).2.1 → c.maxLocals = (e_m i).2.2.1 → s.vm.findClass (e_m i).1.cls = some m.cls → (∀ v ∈ e_big, v.before args s = true) → meth.name = (e_m i).1.name → meth.locks = false → meth.sig.returnType = (e_m i).2.2.2.1 → e_G w s → d + 1 ≤ R.frames → 64 * (d + 1) ≤ R.locals →
    (∀ (x a b : Nat) (z : Int) (kc ks pc : Nat) (st : List Value) (M : eM) (H : Heap) (locs : List Loc) (cells slots : Nat) (ls : Array Slot), e_dec i pc = some (.new x, 3, a, b, z) → e_thn (e_m i).1.cls (e_m i).1.name = true → 91 ≤ a → a ≤ 94 → (1 ≤ kc ∧ st = []) → 6 ≤ ks → Q (some (.retAddr a)) M → e_H w M s H → va_S (e_A w) s.heap H locs → cells + kc ≤ R.cells → slots + ks ≤ R.slots → ls.size = (e_m i).2.2.1 → W p l e R s m args below meth c H locs cells slots Qf (F0 m pc ls (st.map (e_cv w)))) →
    (∀ (H : Heap) (locs : List Loc) (cells slots : Nat) (g : JFrame), W p l e R s m args below meth c H locs cells slots (MQ below (e_Qc w (e_nr Q)) args s R.cells R.slots (e_A w)) g → W p l e R s m args below meth c H locs cells slots Qf g) →
    e_Go p l e R s m args below meth c Qf w (e_m i).2.2.1 (fun kc ks pc lv st M => e_wp n i d kc ks pc lv st M Q) := by
  intro n
  induction n with
  | zero =>
    intro i d Q hi p e R s m args below meth c Qf hx hb hml ho hts hnm hlo hret hG hf hlc hthr hmq kc ks pc lv st M h
    exact False.elim h
  | succ n ih =>
    intro i d Q hi p e R s m args below meth c Qf hx hb hml ho hts hnm hlo hret hG hf hlc hthr hmq kc ks pc lv st M h H locs cells slots ls hH hS hc hs hl
    have hgo := ih i d Q hi p e R s m args below meth c Qf hx hb hml ho hts hnm hlo hret hG hf hlc hthr hmq
    have hcal : e_Cal l R w (fun j mc ms av M' K => ∃ d', d = d' + 1 ∧ j < 79 ∧ e_nf j = true ∧ (lg_sl av).length ≤ (e_m j).2.2.1 ∧ e_wp n j d' mc ms 0 (lv_args 0 av) [] M' K) := by
      intro j mc ms av M' K hK
      obtain ⟨d', rfl, hj, hnf, hlen, hwp⟩ := hK
      refine ⟨d', ?_, by omega, by omega⟩
      obtain ⟨ps, hM⟩ := hOkM j hj
      have hpl := e_okM_pl hM hnf
      refine Met.ofW (cc := (e_m j).2.1) (maxL := (e_m j).2.2.1) (ret := (e_m j).2.2.2.1) hpl rfl ?_
      intro p2 e2 s2 m2 args2 below2 meth2 c2 s₁ B hml2 hv
      obtain ⟨rfl, hG2, hH2⟩ := hv
      have hts2 := atoms_spec (ws := e_ws j) B.pre
      have hl2 := lv_entry (av.map (e_cv w)) (n := (e_m j).2.2.1) (by rw [e_sl_len]; exact hlen)
      rw [lg_entry_eq]
      generalize (lg_sl (av.map (e_cv w)) ++ List.replicate ((e_m j).2.2.1 - (lg_sl (av.map (e_cv w))).length) Slot.unset).toArray = ls2 at hl2 ⊢
      exact ih j d' K hj p2 e2 _ s2 m2 _ below2 meth2 c2 _ B.exec B.bytes hml2 (findClass_of_methodNamed B.named) (fun v hv => hts2 v (List.mem_cons_of_mem _ hv)) (name_of_methodNamed B.named B.method).1 B.notSynchronized B.returns hG2 (Nat.le_refl _) (Nat.le_refl _) (fun _ _ _ _ _ _ _ _ _ _ _ _ _ _ _ z => absurd z (by rw [e_five hj hnf]; decide)) (fun _ _ _ _ _ z => e_nr_W z) mc ms 0 (lv_args 0 av) [] M' hwp s2.heap [] 0 0 ls2 hH2 va_S.rf (by show 0 + mc ≤ mc; omega) (by show 0 + ms ≤ ms; omega) (by rw [e_args_map]; exact hl2)
    have h : (match e_dec i pc with
      | none => False
      | some q => e_ins (e_m i).2.2.1 (fun kc' ks' pc' lv' st' M' => e_wp n i d kc' ks' pc' lv' st' M' Q) (fun j mc ms av M' K => ∃ d', d = d' + 1 ∧ j < 79 ∧ e_nf j = true ∧ (lg_sl av).length ≤ (e_m j).2.2.1 ∧ e_wp n j d' mc ms 0 (lv_args 0 av) [] M' K) Q (e_m i).2.2.2.1 kc ks pc q lv st M) := h
    cases hq : e_dec i pc with
    | none => rw [hq] at h; exact False.elim h
    | some q =>
      rw [hq] at h
      obtain ⟨hdg, ps1, hok1⟩ := hOk i hi pc q (e_dec_mem (i := i) hq)
      exact e_one hOkM hx hb hml hgo hH hS hc hs hl hG hts ho hnm hcal ⟨by omega, by omega⟩ hlo hret hmq (fun x a b z e h1 h2 h3 h4 h5 h6 => hthr x a b z kc ks pc st M H locs cells slots ls (by rw [hq, e]) h1 h2 h3 h4 h5 h6 hH hS hc hs hl.1) hdg hok1 h
/-- a method's contract on the real machine, out of its run on the machine of numbered cells -/
theorem e_met (hOk : ∀ i, i < 79 → e_Ok i) (hOkM : ∀ j, j < 79 → e_OkM j) (l : Launch) (w : eW) {n j d mc ms : Nat} {av : List Value} {M : eM} {K : eQ} (hj : j < 79) (hnf : e_nf j = true) (hlen : (lg_sl av).length ≤ (e_m j).2.2.1) (hwp : e_wp n j d mc ms 0 (lv_args 0 av) [] M K) : Met l (e_m j).1 (e_ws j) (e_rm d mc ms) (e_Pc w av M) (e_Qc w K) mc ms (e_A w) := by
  obtain ⟨ps, hM⟩ := hOkM j hj
  have hpl := e_okM_pl hM hnf
  refine Met.ofW (cc := (e_m j).2.1) (maxL := (e_m j).2.2.1) (ret := (e_m j).2.2.2.1) hpl rfl ?_
  intro p2 e2 s2 m2 args2 below2 meth2 c2 s₁ B hml2 hv
  obtain ⟨rfl, hG2, hH2⟩ := hv
  have hts2 := atoms_spec (ws := e_ws j) B.pre
  have hl2 := lv_entry (av.map (e_cv w)) (n := (e_m j).2.2.1) (by rw [e_sl_len]; exact hlen)
  rw [lg_entry_eq]
  generalize (lg_sl (av.map (e_cv w)) ++ List.replicate ((e_m j).2.2.1 - (lg_sl (av.map (e_cv w))).length) Slot.unset).toArray = ls2 at hl2 ⊢
  exact e_run hOk hOkM l w n j d K hj p2 e2 _ s2 m2 _ below2 meth2 c2 _ B.exec B.bytes hml2 (findClass_of_methodNamed B.named) (fun v hv => hts2 v (List.mem_cons_of_mem _ hv)) (name_of_methodNamed B.named B.method).1 B.notSynchronized B.returns hG2 (Nat.le_refl _) (Nat.le_refl _) (fun _ _ _ _ _ _ _ _ _ _ _ _ _ _ _ z => absurd z (by rw [e_five hj hnf]; decide)) (fun _ _ _ _ _ z => e_nr_W z) mc ms 0 (lv_args 0 av) [] M hwp s2.heap [] 0 0 ls2 hH2 va_S.rf (by show 0 + mc ≤ mc; omega) (by show 0 + ms ≤ ms; omega) (by rw [e_args_map]; exact hl2)
