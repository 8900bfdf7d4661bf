/-! ===== arrays, statics, new cells ===== -/
section ARR
variable {p : Program} {l : Launch} {e : Env} {R : Room} {s : State} {m : MethodId} {args : Array Value} {below : List Frame} {meth : Method} {c : Code} {Qf : State → Prop} {w : eW}
variable {cc : ByteArray} {nL : Nat} {k : eK} {H : Heap} {locs : List Loc} {cells slots kc ks pc : Nat} {ls : Array Slot} {lv : eL} {M : eM}
theorem e_cell_20 {a : Nat} (h : (M.2.1 a).1 = 20) : e_cell w M a = .inl (w.2.1 20, (M.2.1 a).2, .inl (M.2.2.1 a)) := by simp [e_cell, h]
theorem e_cell_21 {a : Nat} (h : (M.2.1 a).1 = 21) : e_cell w M a = .inl (w.2.1 21, (M.2.1 a).2, .inr (.inl (M.2.2.2.1 a))) := by simp [e_cell, h]
theorem e_cell_22 {a : Nat} (h : (M.2.1 a).1 = 22) : e_cell w M a = .inl (w.2.1 22, (M.2.1 a).2, .inl (M.2.2.1 a)) := by simp [e_cell, h]
theorem e_cell_23 {a : Nat} (h : (M.2.1 a).1 = 23) : e_cell w M a = .inl (w.2.1 23, (M.2.1 a).2, .inr (.inr (.inr (.inr (fun j => e_ro w (M.2.2.2.2 a j)))))) := by simp [e_cell, h]
theorem e_cell_24 {a : Nat} (h : (M.2.1 a).1 = 24) : e_cell w M a = .inl (w.2.1 24, (M.2.1 a).2, .inr (.inr (.inr (.inr (fun j => e_ro w (M.2.2.2.2 a j)))))) := by simp [e_cell, h]
theorem e_at_ar {U : State} {a t : Nat} {i : Int32} (hH : e_H w M U H) (h : e_ar M a t i) (ht : t < 50) : va_at w.1 e_cl (e_ad w a, e_cell w M a) H := hH.2.2.1 a h.1 h.2.1 (by rw [h.2.2.1]; exact ht)
theorem es_getstatic (hx : p.tables.exec = Jvm.exec) (hb : c.code = cc) (hgo : e_Go p l e R s m args below meth c Qf w nL k) (hH : e_H w M s H) (hS : va_S (e_A w) s.heap H locs) (hc : cells + kc ≤ R.cells) (hs : slots + ks ≤ R.slots) (hl : lv_has ls nL (lv.map (e_cq w)))
    (hG : e_G w s) {own : String} (ho : s.vm.findClass own = some m.cls) {st : List Value} {a x : Nat} {n : String} (hn : (own, x, n, a) ∈ e_nsF) (hz : ("TierMill", n, "[I", a) ∈ e_sts) (d : decode cc pc = .ok (.getstatic x, 3))
    (h : k kc ks (pc + 3) lv (.ref a :: st) M) : W p l e R s m args below meth c H locs cells slots Qf (F0 m pc ls (st.map (e_cv w))) := by
  have hlt : 0 < a ∧ a < e_c0 := by
    simp only [e_sts, List.mem_cons, List.not_mem_nil, or_false, Prod.mk.injEq] at hz
    unfold e_c0
    omega
  have hr : e_cv w (.ref a) = .ref (w.2.2.1 a) := by
    rw [e_cv_ref hlt.1]
    unfold e_ad
    rw [if_pos hlt.2]
  have h2 := hgo _ _ _ _ _ _ h H locs cells slots ls hH hS hc hs hl
  rw [List.map_cons, hr] at h2
  obtain ⟨cf, kf, fi, f, a1, cell, h3, h4, h5, h6, h7, h8, h9, h10⟩ := hH.2.2.2.2.1 _ hz
  exact va_WgetsN hx hb ho (va_Nw.use rfl (hG.2.1 _ hn)) h3 h4 h5 h6 h7 (fun e => by rw [e] at h8; cases h8) h9 rfl d h2
theorem es_iaload (hx : p.tables.exec = Jvm.exec) (hb : c.code = cc) (hgo : e_Go p l e R s m args below meth c Qf w nL k) (hH : e_H w M s H) (hS : va_S (e_A w) s.heap H locs) (hc : cells + kc ≤ R.cells) (hs : slots + ks ≤ R.slots) (hl : lv_has ls nL (lv.map (e_cq w)))
    (hG : e_G w s) {r : List Value} {a : Nat} {i : Int32} (ha : e_ai M a i) (d : decode cc pc = .ok (.iaload, 1)) (h : k kc ks (pc + 1) lv (.int (M.2.2.1 a i.toNatClampNeg) :: r) M) : W p l e R s m args below meth c H locs cells slots Qf (F0 m pc ls ((.int i :: .ref a :: r).map (e_cv w))) := by
  obtain ⟨h1, h2, h3, h4⟩ := ha
  have h5 := hgo _ _ _ _ _ _ h H locs cells slots ls hH hS hc hs hl
  rw [List.map_cons, List.map_cons, e_cv_ref h1]
  by_cases hlt : a < e_c0
  · obtain ⟨g1, cell, g2, g3, g4, g5, g6, g7⟩ := hH.2.2.2.1 a h1 hlt h3
    have hi : i.toNatClampNeg < (M.2.1 a).2 := Nat.not_le.mp fun q => h4 (Or.inr q)
    have hj : e_ad w a = w.2.2.1 a := if_pos hlt
    rw [hj]
    refine W.iald (v := .int (M.2.2.1 a i.toNatClampNeg)) hx hb g2 g3 g4 (fun q => ?_) (g7 _ hi) rfl rfl d h5
    rcases q with q | q
    · exact h4 (Or.inl q)
    · omega
  · have hat := hH.2.2.1 a (Nat.not_lt.mp hlt) h2 (by rw [h3]; decide)
    rw [e_cell_20 h3] at hat
    exact va_iald hx hb hG.1 (e_P1 hat) 0 0 rfl rfl h4 d h5
theorem es_baload (hx : p.tables.exec = Jvm.exec) (hb : c.code = cc) (hgo : e_Go p l e R s m args below meth c Qf w nL k) (hH : e_H w M s H) (hS : va_S (e_A w) s.heap H locs) (hc : cells + kc ≤ R.cells) (hs : slots + ks ≤ R.slots) (hl : lv_has ls nL (lv.map (e_cq w)))
    (hG : e_G w s) {r : List Value} {a : Nat} {i : Int32} (ha : e_ar M a 22 i) (d : decode cc pc = .ok (.baload, 1)) (h : k kc ks (pc + 1) lv (.int (M.2.2.1 a i.toNatClampNeg) :: r) M) : W p l e R s m args below meth c H locs cells slots Qf (F0 m pc ls ((.int i :: .ref a :: r).map (e_cv w))) := by
  have hat := e_at_ar hH ha (by decide)
  rw [e_cell_22 ha.2.2.1] at hat
  rw [List.map_cons, List.map_cons, e_cv_ref (e_c0_pos ha.1)]
  exact va_zald hx hb hG.1 (e_P1 hat) 0 2 rfl rfl ha.2.2.2 d (hgo _ _ _ _ _ _ h H locs cells slots ls hH hS hc hs hl)
theorem es_laload (hx : p.tables.exec = Jvm.exec) (hb : c.code = cc) (hgo : e_Go p l e R s m args below meth c Qf w nL k) (hH : e_H w M s H) (hS : va_S (e_A w) s.heap H locs) (hc : cells + kc ≤ R.cells) (hs : slots + ks ≤ R.slots) (hl : lv_has ls nL (lv.map (e_cq w)))
    (hG : e_G w s) {r : List Value} {a : Nat} {i : Int32} (ha : e_ar M a 21 i) (d : decode cc pc = .ok (.laload, 1)) (h : k kc ks (pc + 1) lv (.long (M.2.2.2.1 a i.toNatClampNeg) :: r) M) : W p l e R s m args below meth c H locs cells slots Qf (F0 m pc ls ((.int i :: .ref a :: r).map (e_cv w))) := by
  have hat := e_at_ar hH ha (by decide)
  rw [e_cell_21 ha.2.2.1] at hat
  rw [List.map_cons, List.map_cons, e_cv_ref (e_c0_pos ha.1)]
  exact va_lald hx hb hG.1 (e_P1 hat) 0 1 rfl rfl ha.2.2.2 d (hgo _ _ _ _ _ _ h H locs cells slots ls hH hS hc hs hl)
theorem es_aaload (hx : p.tables.exec = Jvm.exec) (hb : c.code = cc) (hgo : e_Go p l e R s m args below meth c Qf w nL k) (hH : e_H w M s H) (hS : va_S (e_A w) s.heap H locs) (hc : cells + kc ≤ R.cells) (hs : slots + ks ≤ R.slots) (hl : lv_has ls nL (lv.map (e_cq w)))
    (hG : e_G w s) {r : List Value} {a : Nat} {i : Int32} (ha : e_ar M a 23 i ∨ e_ar M a 24 i) (d : decode cc pc = .ok (.aaload, 1)) (h : k kc ks (pc + 1) lv (.ref (M.2.2.2.2 a i.toNatClampNeg) :: r) M) : W p l e R s m args below meth c H locs cells slots Qf (F0 m pc ls ((.int i :: .ref a :: r).map (e_cv w))) := by
  have h5 := hgo _ _ _ _ _ _ h H locs cells slots ls hH hS hc hs hl
  have e1 : e_cv w (.ref (M.2.2.2.2 a i.toNatClampNeg)) = va_rf (e_ro w (M.2.2.2.2 a i.toNatClampNeg)) := (e_ro_rf w _).symm
  rw [List.map_cons, e1] at h5
  rcases ha with ha | ha
  · have hat := e_at_ar hH ha (by decide)
    rw [e_cell_23 ha.2.2.1] at hat
    rw [List.map_cons, List.map_cons, e_cv_ref (e_c0_pos ha.1)]
    exact va_aldq hx hb hG.1 (e_P1 hat) 0 3 rfl rfl ha.2.2.2 d h5
  · have hat := e_at_ar hH ha (by decide)
    rw [e_cell_24 ha.2.2.1] at hat
    rw [List.map_cons, List.map_cons, e_cv_ref (e_c0_pos ha.1)]
    exact va_aldq hx hb hG.1 (e_P1 hat) 0 4 rfl rfl ha.2.2.2 d h5
theorem es_iastore (hx : p.tables.exec = Jvm.exec) (hb : c.code = cc) (hgo : e_Go p l e R s m args below meth c Qf w nL k) (hH : e_H w M s H) (hS : va_S (e_A w) s.heap H locs) (hc : cells + kc ≤ R.cells) (hs : slots + ks ≤ R.slots) (hl : lv_has ls nL (lv.map (e_cq w)))
    (hG : e_G w s) {r : List Value} {a : Nat} {i x : Int32} (ha : e_ar M a 20 i) (d : decode cc pc = .ok (.iastore, 1)) (h : k kc ks (pc + 1) lv r (e_si M a i.toNatClampNeg x)) : W p l e R s m args below meth c H locs cells slots Qf (F0 m pc ls ((.int x :: .int i :: .ref a :: r).map (e_cv w))) := by
  have hat := e_at_ar hH ha (by decide)
  rw [e_cell_20 ha.2.2.1] at hat
  rw [List.map_cons, List.map_cons, List.map_cons, e_cv_ref (e_c0_pos ha.1)]
  refine W.iast hx hb hat ((hG.1.2 0 _ rfl).1 _ (fun j => .int (M.2.2.1 a j))) (fun q => by cases q) (by show ¬ (i < 0 ∨ (arrV _ _ _).slots.size ≤ _); rw [arrV_size]; exact ha.2.2.2) rfl rfl d fun H1 e1 z oq => ?_
  refine hgo _ _ _ _ _ _ h H1 _ cells slots ls (hH.put ha.1 rfl rfl (fun j hj => e_u_ne hj) (fun j hj => e_cell_si hj) ?_ z oq) (hS.put z oq (e_ad_A ha.1)) hc hs hl
  rw [e_cell_20 (w := w) (M := e_si M a i.toNatClampNeg x) ha.2.2.1]
  show H1[_]? = some (vp_cell _ _)
  rw [e1, vp_cell_i, vp_cell_i, arrV_store]
  show some (arrV _ _ _) = some (arrV _ _ (fun j => .int (e_u M.2.2.1 a i.toNatClampNeg x a j)))
  rw [e_u_i]
  congr 2
  funext q
  by_cases hq : q = i.toNatClampNeg
  · subst hq; simp [updV, upd]
  · simp [updV, upd, hq]
theorem es_bastore (hx : p.tables.exec = Jvm.exec) (hb : c.code = cc) (hgo : e_Go p l e R s m args below meth c Qf w nL k) (hH : e_H w M s H) (hS : va_S (e_A w) s.heap H locs) (hc : cells + kc ≤ R.cells) (hs : slots + ks ≤ R.slots) (hl : lv_has ls nL (lv.map (e_cq w)))
    (hG : e_G w s) {r : List Value} {a : Nat} {i x : Int32} (ha : e_ar M a 22 i) (d : decode cc pc = .ok (.bastore, 1)) (h : k kc ks (pc + 1) lv r (e_si M a i.toNatClampNeg (vp_nar .boolean x))) : W p l e R s m args below meth c H locs cells slots Qf (F0 m pc ls ((.int x :: .int i :: .ref a :: r).map (e_cv w))) := by
  have hat := e_at_ar hH ha (by decide)
  rw [e_cell_22 ha.2.2.1] at hat
  rw [List.map_cons, List.map_cons, List.map_cons, e_cv_ref (e_c0_pos ha.1)]
  refine W.zast hx hb hat ((hG.1.2 2 _ rfl).1 _ (fun j => .int (M.2.2.1 a j))) (fun q => by cases q) (by show ¬ (i < 0 ∨ (arrV _ _ _).slots.size ≤ _); rw [arrV_size]; exact ha.2.2.2) rfl rfl d fun H1 e1 z oq => ?_
  refine hgo _ _ _ _ _ _ h H1 _ cells slots ls (hH.put ha.1 rfl rfl (fun j hj => e_u_ne hj) (fun j hj => e_cell_si hj) ?_ z oq) (hS.put z oq (e_ad_A ha.1)) hc hs hl
  rw [e_cell_22 (w := w) (M := e_si M a i.toNatClampNeg (vp_nar .boolean x)) ha.2.2.1]
  show H1[_]? = some (vp_cell _ _)
  rw [e1, vp_cell_i, vp_cell_i, arrV_store]
  show some (arrV _ _ _) = some (arrV _ _ (fun j => .int (e_u M.2.2.1 a i.toNatClampNeg (vp_nar .boolean x) a j)))
  rw [e_u_i]
  congr 2
  funext q
  by_cases hq : q = i.toNatClampNeg
  · subst hq; simp [updV, upd, vp_nar]; try rfl
  · simp [updV, upd, hq]
theorem es_lastore (hx : p.tables.exec = Jvm.exec) (hb : c.code = cc) (hgo : e_Go p l e R s m args below meth c Qf w nL k) (hH : e_H w M s H) (hS : va_S (e_A w) s.heap H locs) (hc : cells + kc ≤ R.cells) (hs : slots + ks ≤ R.slots) (hl : lv_has ls nL (lv.map (e_cq w)))
    (hG : e_G w s) {r : List Value} {a : Nat} {i : Int32} {x : Int64} (ha : e_ar M a 21 i) (d : decode cc pc = .ok (.lastore, 1)) (h : k kc ks (pc + 1) lv r (e_sl M a i.toNatClampNeg x)) : W p l e R s m args below meth c H locs cells slots Qf (F0 m pc ls ((.long x :: .int i :: .ref a :: r).map (e_cv w))) := by
  have hat := e_at_ar hH ha (by decide)
  rw [e_cell_21 ha.2.2.1] at hat
  rw [List.map_cons, List.map_cons, List.map_cons, e_cv_ref (e_c0_pos ha.1)]
  refine W.last hx hb hat ((hG.1.2 1 _ rfl).1 _ (fun j => .long (M.2.2.2.1 a j))) (fun q => by cases q) (by show ¬ (i < 0 ∨ (arrV _ _ _).slots.size ≤ _); rw [arrV_size]; exact ha.2.2.2) rfl rfl d fun H1 e1 z oq => ?_
  refine hgo _ _ _ _ _ _ h H1 _ cells slots ls (hH.put ha.1 rfl rfl (fun _ _ => rfl) (fun j hj => e_cell_sl hj) ?_ z oq) (hS.put z oq (e_ad_A ha.1)) hc hs hl
  rw [e_cell_21 (w := w) (M := e_sl M a i.toNatClampNeg x) ha.2.2.1]
  show H1[_]? = some (vp_cell _ _)
  rw [e1, vp_cell_l, vp_cell_l, arrV_store]
  show some (arrV _ _ _) = some (arrV _ _ (fun j => .long (e_u M.2.2.2.1 a i.toNatClampNeg x a j)))
  rw [e_u_l]
  congr 2
  funext q
  by_cases hq : q = i.toNatClampNeg
  · subst hq; simp [updV, vp_updL]
  · simp [updV, vp_updL, hq]
theorem e_aastR (hx : p.tables.exec = Jvm.exec) (hb : c.code = cc) (hgo : e_Go p l e R s m args below meth c Qf w nL k) (hH : e_H w M s H) (hS : va_S (e_A w) s.heap H locs) (hc : cells + kc ≤ R.cells) (hs : slots + ks ≤ R.slots) (hl : lv_has ls nL (lv.map (e_cq w)))
    (hG : e_G w s) {r : List Value} {a x t t0 ci : Nat} {i : Int32} {q : vw_C} (ha : e_ar M a t i) (ht : t < 50) (hce : ∀ M' : eM, (M'.2.1 a).1 = t → e_cell w M' a = .inl (w.2.1 t, (M'.2.1 a).2, .inr (.inr (.inr (.inr (fun j => e_ro w (M'.2.2.2.2 a j))))))) (hty : (e_tys w)[t0]? = some (w.2.1 t, .object q.1)) (hci : ci < 20) (hq : e_cl[ci]? = some q) (hob : e_ob M x ci) (d : decode cc pc = .ok (.aastore, 1)) (h : k kc ks (pc + 1) lv r (e_sr M a i.toNatClampNeg x)) : W p l e R s m args below meth c H locs cells slots Qf (F0 m pc ls ((.ref x :: .int i :: .ref a :: r).map (e_cv w))) := by
  have hat := e_at_ar hH ha ht
  rw [hce M ha.2.2.1] at hat
  rw [List.map_cons, List.map_cons, List.map_cons, e_cv_ref (e_c0_pos ha.1), e_cv_ref (e_c0_pos hob.1)]
  have hlt : i.toNatClampNeg < (M.2.1 a).2 := Nat.not_le.mp fun q => ha.2.2.2 (Or.inr q)
  have h0 : ¬ i < 0 := fun q => ha.2.2.2 (Or.inl q)
  obtain ⟨r', hr', cellV, g1, g2, g3, -⟩ := e_at_ob hH hob hci
  have hcls := (hG.1.1 ci q hq).2
  obtain ⟨kA, comp, k1, k2, k3, -⟩ := (hG.1.2 t0 _ hty).2
  have hcomp : comp = w.1.1 ci := Option.some.inj (k3.symm.trans hcls.1)
  subst hcomp
  obtain ⟨kC, hkC, -⟩ := hcls.2
  refine W.aast hx hb hat (fun q h => by cases h) (fun h => by cases h) k1 k2 rfl hkC ⟨h0, by show _ < (arrV _ _ _).slots.size; rw [arrV_size]; exact hlt⟩ g1 (fun q h => by rw [g3] at h; cases h) (by rw [g2]; exact hkC) (by rw [g2]; exact va_assign hcls) rfl rfl d fun H1 e1 z oq => ?_
  refine hgo _ _ _ _ _ _ h H1 _ cells slots ls (hH.put ha.1 rfl rfl (fun _ _ => rfl) (fun j hj => e_cell_sr hj) ?_ z oq) (hS.put z oq (e_ad_A ha.1)) hc hs hl
  rw [hce (e_sr M a i.toNatClampNeg x) ha.2.2.1]
  show H1[_]? = some (vp_cell _ _)
  rw [e1, vp_cell_q, vp_cell_q, arrV_store]
  show some (arrV _ _ _) = some (arrV _ _ (fun j => va_rf (e_ro w (e_u M.2.2.2.2 a i.toNatClampNeg x a j))))
  rw [e_u_r]
  congr 2
  funext q
  by_cases hq : q = i.toNatClampNeg
  · subst hq
    have : x ≠ 0 := Nat.ne_of_gt (e_c0_pos hob.1)
    simp [updV, va_up, e_ro, this, va_rf]
  · simp [updV, va_up, hq]
theorem es_aastore (hx : p.tables.exec = Jvm.exec) (hb : c.code = cc) (hgo : e_Go p l e R s m args below meth c Qf w nL k) (hH : e_H w M s H) (hS : va_S (e_A w) s.heap H locs) (hc : cells + kc ≤ R.cells) (hs : slots + ks ≤ R.slots) (hl : lv_has ls nL (lv.map (e_cq w)))
    (hG : e_G w s) {r : List Value} {a x : Nat} {i : Int32} (ha : (e_ar M a 23 i ∧ e_ob M x 4) ∨ (e_ar M a 24 i ∧ e_ob M x 8)) (d : decode cc pc = .ok (.aastore, 1)) (h : k kc ks (pc + 1) lv r (e_sr M a i.toNatClampNeg x)) : W p l e R s m args below meth c H locs cells slots Qf (F0 m pc ls ((.ref x :: .int i :: .ref a :: r).map (e_cv w))) := by
  rcases ha with ⟨h1, h2⟩ | ⟨h1, h2⟩
  · exact e_aastR hx hb hgo hH hS hc hs hl hG h1 (by decide) (fun M' h => e_cell_23 h) (t0 := 3) rfl (by decide) rfl h2 d h
  · exact e_aastR hx hb hgo hH hS hc hs hl hG h1 (by decide) (fun M' h => e_cell_24 h) (t0 := 4) rfl (by decide) rfl h2 d h
theorem es_alen (hx : p.tables.exec = Jvm.exec) (hb : c.code = cc) (hgo : e_Go p l e R s m args below meth c Qf w nL k) (hH : e_H w M s H) (hS : va_S (e_A w) s.heap H locs) (hc : cells + kc ≤ R.cells) (hs : slots + ks ≤ R.slots) (hl : lv_has ls nL (lv.map (e_cq w)))
    (hG : e_G w s) {r : List Value} {a : Nat} (ha : (0 < a ∧ a < M.1 ∧ (M.2.1 a).1 = 20) ∨ (e_c0 ≤ a ∧ a < M.1 ∧ 20 ≤ (M.2.1 a).1 ∧ (M.2.1 a).1 ≤ 24)) (d : decode cc pc = .ok (.arraylength, 1)) (h : k kc ks (pc + 1) lv (.int (Int32.ofNat (M.2.1 a).2) :: r) M) : W p l e R s m args below meth c H locs cells slots Qf (F0 m pc ls ((.ref a :: r).map (e_cv w))) := by
  have h5 := hgo _ _ _ _ _ _ h H locs cells slots ls hH hS hc hs hl
  have h0 : 0 < a := by
    rcases ha with h | h
    · exact h.1
    · exact e_c0_pos h.1
  rw [List.map_cons, e_cv_ref h0]
  by_cases hlt : a < e_c0
  · have h3 : (M.2.1 a).1 = 20 := by
      rcases ha with h | h
      · exact h.2.2
      · omega
    obtain ⟨g1, cell, g2, g3, g4, g5, g6, g7⟩ := hH.2.2.2.1 a h0 hlt h3
    have hj : e_ad w a = w.2.2.1 a := if_pos hlt
    rw [hj]
    exact W.alen hx hb g2 g3 g6 rfl rfl d h5
  · have h1 := Nat.not_lt.mp hlt
    have h2 : a < M.1 ∧ ((M.2.1 a).1 = 20 ∨ (M.2.1 a).1 = 21 ∨ (M.2.1 a).1 = 22 ∨ (M.2.1 a).1 = 23 ∨ (M.2.1 a).1 = 24) := by
      rcases ha with h | h
      · exact ⟨h.2.1, Or.inl h.2.2⟩
      · exact ⟨h.2.1, by omega⟩
    have hat := hH.2.2.1 a h1 h2.1 (by omega)
    rcases h2.2 with g | g | g | g | g
    · rw [e_cell_20 g] at hat
      exact va_alen hx hb hG.1 (e_P1 hat) 0 0 rfl rfl rfl d h5
    · rw [e_cell_21 g] at hat
      exact va_alen hx hb hG.1 (e_P1 hat) 0 1 rfl rfl rfl d h5
    · rw [e_cell_22 g] at hat
      exact va_alen hx hb hG.1 (e_P1 hat) 0 2 rfl rfl rfl d h5
    · rw [e_cell_23 g] at hat
      exact va_alen hx hb hG.1 (e_P1 hat) 0 3 rfl rfl rfl d h5
    · rw [e_cell_24 g] at hat
      exact va_alen hx hb hG.1 (e_P1 hat) 0 4 rfl rfl rfl d h5
end ARR
