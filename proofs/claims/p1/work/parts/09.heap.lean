/-! ===== instructions that look into the heap ===== -/
section HEA
variable {p : Program} {l : Launch} {e : Env} {R : Room} {s : State} {m : MethodId} {args : Array Value} {below : List Frame} {meth : Method} {c : Code} {Qf : State → Prop} {w : eW}
variable {cc : ByteArray} {nL : Nat} {k : eK} {H : Heap} {locs : List Loc} {cells slots kc ks pc : Nat} {ls : Array Slot} {lv : eL} {M : eM}
theorem e_cl_lt {a : Nat} {q : vw_C} (h : e_cl[a]? = some q) : a < 20 := by
  have h1 := (List.getElem?_eq_some_iff.mp h).1
  have h2 : e_cl.length = 13 := rfl
  omega
theorem e_cv_ref {w : eW} {o : Nat} (h : 0 < o) : e_cv w (.ref o) = .ref (e_ad w o) := if_neg (Nat.ne_of_gt h)
theorem e_c0_pos {o : Nat} (h : e_c0 ≤ o) : 0 < o := Nat.lt_of_lt_of_le (by decide) h
theorem e_at_ob {U : State} {o a : Nat} (hH : e_H w M U H) (h : e_ob M o a) (ha : a < 20) : va_at w.1 e_cl (e_ad w o, .inr (a, e_fs w M o (e_fk a))) H := by
  obtain ⟨h1, h2, h3⟩ := h
  have := hH.2.2.1 o h1 h2 (by rw [h3]; omega)
  rwa [e_cell_ob h3 ha] at this
theorem es_getfield (hx : p.tables.exec = Jvm.exec) (hb : c.code = cc) (hgo : e_Go p l e R s m args below meth c Qf w nL k) (hH : e_H w M s H) (hS : va_S (e_A w) s.heap H locs) (hc : cells + kc ≤ R.cells) (hs : slots + ks ≤ R.slots) (hl : lv_has ls nL (lv.map (e_cq w)))
    (hG : e_G w s) (hts : ∀ v ∈ e_big, v.before args s = true) {own : String} (ho : s.vm.findClass own = some m.cls) {r : List Value} {o a b x : Nat} {q : vw_C} (hob : e_ob M o a) (hq : e_cl[a]? = some q) (hbq : b < q.2.2) (hlk : Cond.fieldLink own x (q.2.1 b).1 (q.2.1 b).2.1 (q.2.1 b).2.2.1 ∈ e_big) (d : decode cc pc = .ok (.getfield x, 3))
    (h : k kc ks (pc + 3) lv (e_gv M o b ((e_fk a).getD b 0) :: r) M) : W p l e R s m args below meth c H locs cells slots Qf (F0 m pc ls ((.ref o :: r).map (e_cv w))) := by
  obtain ⟨y, f1, f2, f3, f4, f5⟩ := e_cl_f hq
  have hat := e_at_ob hH hob (e_cl_lt hq)
  obtain ⟨C, T, N⟩ := q
  rw [List.map_cons, e_cv_ref (e_c0_pos hob.1)]
  exact va_get hx hb hts f1 ho hG.1 (e_P1 hat) 0 rfl hq b hbq (hts _ hlk) (fun _ z => z) (e_fs_get w M o (by rw [f4]; exact hbq)) d (hgo _ _ _ _ _ _ h H locs cells slots ls hH hS hc hs hl)
/-- a field is written: as va_put and va_putF, with what stays -/
theorem e_putR {D : va_G} {cl : List vw_C} {A : Nat → Prop} {a : Nat} {tys : List (ClassId × FieldType)} {H0 : Heap} {rest : List Value} (hexec : p.tables.exec = Jvm.exec) (hb : c.code = cc) {own C : String} {T : u_T} {N ci index : Nat} {Ts : List Cond} (hts : ∀ w ∈ Ts, w.before args s = true) (hin : ∀ w ∈ u_ws C T N, w ∈ Ts) (ty0 : Nat → FieldType) (hty : ∀ k, k < N → parseFieldDescriptor (T k).2.2.1 = some (ty0 k)) (hnm : ∀ a, a < N → ∀ b, b < N → a ≠ b → (T a).2.1 ≠ (T b).2.1) (hown : s.vm.findClass own = some m.cls) (hK : va_K D cl tys s) {fs : List Value} (hat : va_at D cl (a, .inr (ci, fs)) H) (ha : A a) (hS0 : va_S A H0 H locs) (hc : cl[ci]? = some (C, T, N)) (k : Nat) (hk : k < N) (hlink : (Cond.fieldLink own index (T k).1 (T k).2.1 (T k).2.2.1).before args s = true) (hfin : (T k).2.2.2 = false ∨ (meth.name = "<init>" ∧ (T k).1 = own)) {ty : FieldType} {v : Value} (hd : parseFieldDescriptor (T k).2.2.1 = some ty) (hn : narrow ty v = v) (hfit : fits ty v = true) (hl : k < fs.length)
    (hdg : decode cc pc = .ok (.putfield index, 3)) (kk : ∀ (H1 : Heap) (locs1 : List Loc), va_at D cl (a, .inr (ci, fs.set k v)) H1 → H1.size = H.size → (∀ q, q ≠ a → H1[q]? = H[q]?) → va_S A H0 H1 locs1 → W p l e R s m args below meth c H1 locs1 cells slots Qf (F0 m (pc + 3) ls rest)) : W p l e R s m args below meth c H locs cells slots Qf (F0 m pc ls (v :: .ref a :: rest)) := by
  have hap := va_apart (own := own) hts hin ty0 hty hnm hK hc
  obtain ⟨r, h1, cell, q1, q2, q3, q4⟩ := hat
  have hr : r = (C, T, N) := Option.some.inj (h1.symm.trans hc)
  subst hr
  obtain ⟨hS, hfc, kC, hkC, hkind⟩ := hK.1 ci _ hc
  obtain ⟨cf, kf, fi, f, hi, hsl⟩ := hS k hk
  have hlay := hts _ (hin _ (u_in_lay hk))
  unfold u_lay at hlay
  have hst := (u_facts hfc hkC (u_lays hts hin hk) hi).1
  cases hf : (T k).2.2.2 with
  | false =>
    rw [if_neg (by rw [hf]; decide)] at hlay
    have h6 := u_store hfc hkC hkind hlay hi hd hn hfit
    refine W.putK hexec hb (f := f) ⟨hown, hlink, ⟨_, _, _, hi⟩, hst⟩ (by rw [q2]; exact h6) q1 q3 (by rw [hsl]; exact k2_hasslot (q4 k hk)) rfl rfl hdg fun H' e1 e2 e3 => ?_
    rw [hsl] at e1 ⊢
    exact kk H' _ ⟨_, hc, t_OB.to (V := updV (vp_V fs) k v) ⟨_, e1, q2, q3, t_set q4 hap hk v⟩ (fun j _ => vp_updV_set hl v j)⟩ e2 e3 (hS0.put e2 e3 ha)
  | true =>
    rw [if_pos hf] at hlay
    obtain ⟨hin2, hdecl⟩ := hfin.resolve_left (by rw [hf]; decide)
    have hcf : m.cls = cf := by
      obtain ⟨_, _, c', _, _, _, -, -, hf', -, -, -, hown2, -⟩ := Cond.laysFinal_spec hlay
      have e1 : c' = cf := by have := hi.symm.trans hf'; simp at this; exact this.1.symm
      rw [hdecl] at hown2
      rw [← e1]; exact Option.some.inj (hown.symm.trans hown2)
    have h6 := u_fits hfc hkC hkind (Or.inr hlay) hi hd hn hfit
    refine W.putFinK hexec hb hown hlink hi hst hcf hin2 (by rw [q2]; exact h6) q1 q3 (by rw [hsl]; exact k2_hasslot (q4 k hk)) rfl rfl hdg fun H' e1 e2 e3 => ?_
    rw [hsl] at e1 ⊢
    exact kk H' _ ⟨_, hc, t_OB.to (V := updV (vp_V fs) k v) ⟨_, e1, q2, q3, t_set q4 hap hk v⟩ (fun j _ => vp_updV_set hl v j)⟩ e2 e3 (hS0.put e2 e3 ha)
theorem e_kty_i {kind : Nat} {ty : FieldType} {x : Int32} (h : e_kty kind ty = true) (h1 : kind ≠ 1) (h2 : kind ≠ 2) (h3 : kind = 3 → x = 0 ∨ x = 1) : narrow ty (.int x) = .int x ∧ fits ty (.int x) = true := by
  cases ty with
  | int => exact ⟨rfl, rfl⟩
  | boolean =>
    have : kind = 3 := by simpa [e_kty] using h
    rcases h3 this with rfl | rfl <;> exact ⟨by decide, by decide⟩
  | long => exact absurd (by simpa [e_kty] using h) h1
  | object n => exact absurd (by simpa [e_kty] using h) h2
  | array t => exact absurd (by simpa [e_kty] using h) h2
  | _ => cases h
theorem e_kty_l {kind : Nat} {ty : FieldType} {x : Int64} (h : e_kty kind ty = true) (h1 : kind = 1) : narrow ty (.long x) = .long x ∧ fits ty (.long x) = true := by
  subst h1
  cases ty with
  | long => exact ⟨rfl, rfl⟩
  | _ => cases h
theorem e_kty_r {kind : Nat} {ty : FieldType} {w : eW} {x : Nat} (h : e_kty kind ty = true) (h1 : kind = 2) : narrow ty (e_rv w x) = e_rv w x ∧ fits ty (e_rv w x) = true := by
  subst h1
  unfold e_rv
  cases ty with
  | object n => split <;> exact ⟨rfl, rfl⟩
  | array n => split <;> exact ⟨rfl, rfl⟩
  | _ => cases h
theorem es_put (hx : p.tables.exec = Jvm.exec) (hb : c.code = cc) (hgo : e_Go p l e R s m args below meth c Qf w nL k) (hH : e_H w M s H) (hS : va_S (e_A w) s.heap H locs) (hc : cells + kc ≤ R.cells) (hs : slots + ks ≤ R.slots) (hl : lv_has ls nL (lv.map (e_cq w)))
    (hG : e_G w s) (hts : ∀ v ∈ e_big, v.before args s = true) {own : String} (ho : s.vm.findClass own = some m.cls) {st : List Value} {a b x : Nat} {q : vw_C} (hq : e_cl[a]? = some q) (hbq : b < q.2.2) (hlk : Cond.fieldLink own x (q.2.1 b).1 (q.2.1 b).2.1 (q.2.1 b).2.2.1 ∈ e_big) (hfin : (q.2.1 b).2.2.2 = false ∨ (meth.name = "<init>" ∧ (q.2.1 b).1 = own)) (d : decode cc pc = .ok (.putfield x, 3))
    (h : e_put k kc ks (pc + 3) a b lv st M) : W p l e R s m args below meth c H locs cells slots Qf (F0 m pc ls (st.map (e_cv w))) := by
  obtain ⟨y, f1, f2, f3, f4, f5⟩ := e_cl_f hq
  have ha := e_cl_lt hq
  obtain ⟨C, T, N⟩ := q
  have hk := f3 b hbq
  unfold e_put at h
  by_cases g1 : (e_fk a).getD b 0 = 1
  · rw [if_pos g1] at h
    obtain ⟨o, v, r, rfl, hob, h⟩ := e_rpl_inv h
    have hat := e_at_ob hH hob ha
    rw [List.map_cons, List.map_cons, e_cv_ref (e_c0_pos hob.1)]
    obtain ⟨n1, n2⟩ := e_kty_l (x := v) hk g1
    refine e_putR hx hb hts f1 y f2 f5 ho hG.1 hat (e_ad_A hob.1) hS hq b hbq (hts _ hlk) hfin (f2 b hbq) (v := .long v) n1 n2 (by rw [e_fs_len, f4]; exact hbq) d fun H1 locs1 hat1 z oq hS1 => ?_
    rw [← e_fs_sl w M o v g1] at hat1
    refine hgo _ _ _ _ _ _ h H1 locs1 cells slots ls (hH.put hob.1 rfl rfl (fun _ _ => rfl) (fun j hj => e_cell_sl hj) ?_ z oq) hS1 hc hs hl
    rw [e_cell_ob (w := w) (M := e_sl M o b v) (ci := a) hob.2.2 ha]
    exact hat1
  · rw [if_neg g1] at h
    by_cases g2 : (e_fk a).getD b 0 = 2
    · rw [if_pos g2] at h
      obtain ⟨o, v, r, rfl, hob, h⟩ := e_rpr_inv h
      have hat := e_at_ob hH hob ha
      rw [List.map_cons, List.map_cons, e_cv_ref (e_c0_pos hob.1)]
      obtain ⟨n1, n2⟩ := e_kty_r (w := w) (x := v) hk g2
      refine e_putR hx hb hts f1 y f2 f5 ho hG.1 hat (e_ad_A hob.1) hS hq b hbq (hts _ hlk) hfin (f2 b hbq) (v := e_rv w v) n1 n2 (by rw [e_fs_len, f4]; exact hbq) d fun H1 locs1 hat1 z oq hS1 => ?_
      rw [← e_fs_sr w M o v g2] at hat1
      refine hgo _ _ _ _ _ _ h H1 locs1 cells slots ls (hH.put hob.1 rfl rfl (fun _ _ => rfl) (fun j hj => e_cell_sr hj) ?_ z oq) hS1 hc hs hl
      rw [e_cell_ob (w := w) (M := e_sr M o b v) (ci := a) hob.2.2 ha]
      exact hat1
    · rw [if_neg g2] at h
      obtain ⟨o, v, r, rfl, hob, h3, h⟩ := e_rpi_inv h
      have hat := e_at_ob hH hob ha
      rw [List.map_cons, List.map_cons, e_cv_ref (e_c0_pos hob.1)]
      obtain ⟨n1, n2⟩ := e_kty_i (x := v) hk g1 g2 h3
      refine e_putR hx hb hts f1 y f2 f5 ho hG.1 hat (e_ad_A hob.1) hS hq b hbq (hts _ hlk) hfin (f2 b hbq) (v := .int v) n1 n2 (by rw [e_fs_len, f4]; exact hbq) d fun H1 locs1 hat1 z oq hS1 => ?_
      rw [← e_fs_si w M o v g1 g2] at hat1
      refine hgo _ _ _ _ _ _ h H1 locs1 cells slots ls (hH.put hob.1 rfl rfl (fun j hj => e_u_ne hj) (fun j hj => e_cell_si hj) ?_ z oq) hS1 hc hs hl
      rw [e_cell_ob (w := w) (M := e_si M o b v) (ci := a) hob.2.2 ha]
      exact hat1
end HEA
