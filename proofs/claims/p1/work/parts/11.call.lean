/-! ===== new cells, calls, returns ===== -/
section CAL
variable {p : Program} {l : Launch} {e : Env} {R : Room} {s : State} {m : MethodId} {args : Array Value} {below : List Frame} {meth : Method} {c : Code} {Qf : State → Prop} {w : eW}
variable {cc : ByteArray} {nL : Nat} {k : eK} {H : Heap} {locs : List Loc} {cells slots kc ks pc : Nat} {ls : Array Slot} {lv : eL} {M : eM}
theorem e_S_new {H1 : Heap} (hS : va_S (e_A w) s.heap H locs) (z : H1.size = H.size + 1) (oq : ∀ q, q < H.size → H1[q]? = H[q]?) : va_S (e_A w) s.heap H1 locs :=
  ⟨Nat.le_trans hS.1 (by omega), fun x h1 h2 => (oq x (Nat.lt_of_lt_of_le h1 hS.1)).trans (hS.2.1 x h1 h2), hS.2.2⟩
theorem e_new_t (M : eM) (t n : Nat) : (e_new M t n).2.1 M.1 = (t, n) := va_up_self _ _ _
theorem e_new_i (M : eM) (t n : Nat) : (e_new M t n).2.2.1 M.1 = fun _ => 0 := va_up_self _ _ _
theorem e_new_l (M : eM) (t n : Nat) : (e_new M t n).2.2.2.1 M.1 = fun _ => 0 := va_up_self _ _ _
theorem e_new_r (M : eM) (t n : Nat) : (e_new M t n).2.2.2.2 M.1 = fun _ => 0 := va_up_self _ _ _
theorem e_def {kind : Nat} {ty : FieldType} (h : e_kty kind ty = true) (t n j : Nat) : defaultValue ty = e_cv w (e_gv (e_new M t n) M.1 j kind) := by
  unfold e_gv
  rw [e_new_i, e_new_l, e_new_r]
  cases ty with
  | int => have : kind = 0 := by simpa [e_kty] using h
           subst this; rfl
  | boolean => have : kind = 3 := by simpa [e_kty] using h
               subst this; rfl
  | long => have : kind = 1 := by simpa [e_kty] using h
            subst this; rfl
  | object n => have : kind = 2 := by simpa [e_kty] using h
                subst this; rfl
  | array n => have : kind = 2 := by simpa [e_kty] using h
               subst this; rfl
  | _ => cases h
theorem es_new (hx : p.tables.exec = Jvm.exec) (hb : c.code = cc) (hgo : e_Go p l e R s m args below meth c Qf w nL k) (hH : e_H w M s H) (hS : va_S (e_A w) s.heap H locs) (hc : cells + kc ≤ R.cells) (hs : slots + ks ≤ R.slots) (hl : lv_has ls nL (lv.map (e_cq w)))
    (hG : e_G w s) (hts : ∀ v ∈ e_big, v.before args s = true) {own : String} (ho : s.vm.findClass own = some m.cls) {st : List Value} {a x : Nat} {q : vw_C} (hq : e_cl[a]? = some q) (w1 : Cond.classLink own x q.1 ∈ e_big) (w2 : Cond.instantiable q.1 q.2.2 ∈ e_big) (w3 : Cond.initialized q.1 ∈ e_big) (d : decode cc pc = .ok (.new x, 3)) (h1 : 1 ≤ kc) (h2 : (e_fk a).length ≤ ks)
    (h : k (kc - 1) (ks - (e_fk a).length) (pc + 3) lv (.ref M.1 :: st) (e_new M a 0)) : W p l e R s m args below meth c H locs cells slots Qf (F0 m pc ls (st.map (e_cv w))) := by
  obtain ⟨y, f1, f2, f3, f4, f5⟩ := e_cl_f hq
  have ha := e_cl_lt hq
  obtain ⟨C, T, N⟩ := q
  have hN : (e_fk a).length = N := f4
  rw [hN] at h h2
  have hKn := hG.1.1 a _ hq
  have hsz := hH.lt
  have hpos := e_c0_pos hH.1
  refine W.newcK hx hb ho (hts _ w1) (hts _ w2) (hts _ w3) rfl d (by omega) (show slots + N ≤ R.slots by omega) hKn.2.1 rfl fun H1 kC hkC e1 z1 o1 => ?_
  have h5 := hgo _ _ _ _ _ _ h H1 locs (cells + 1) (slots + N) ls (hH.new (t := a) (n := 0) (by
      rw [e_cell_ob (w := w) (M := e_new M a 0) (ci := a) (by rw [e_new_t]) ha, ← hsz]
      refine ⟨_, hq, (u_born y hts f1 hKn hkC e1 f2).to fun j hj => ?_⟩
      have h6 := e_fs_get w (e_new M a 0) M.1 (ks := e_fk a) (j := j) (by rw [hN]; exact hj)
      show _ = (e_fs w (e_new M a 0) M.1 (e_fk a)).getD j .null
      rw [List.getD_eq_getElem?_getD, h6]
      exact e_def (f3 j hj) a 0 j) z1 o1) (e_S_new hS z1 o1) (by omega) (by omega) hl
  rw [List.map_cons, e_cv_ref hpos, ← hsz] at h5
  exact h5
theorem e_newaR (hx : p.tables.exec = Jvm.exec) (hb : c.code = cc) (hgo : e_Go p l e R s m args below meth c Qf w nL k) (hH : e_H w M s H) (hS : va_S (e_A w) s.heap H locs) (hc : cells + kc ≤ R.cells) (hs : slots + ks ≤ R.slots) (hl : lv_has ls nL (lv.map (e_cq w)))
    (hG : e_G w s) (hts : ∀ v ∈ e_big, v.before args s = true) {r : List Value} {t t0 : Nat} {at_ : ArrayType} {ty : FieldType} {n : Int32} (hat : newarray.typeOf at_ = ty) (hty : (e_tys w)[t0]? = some (w.2.1 t, ty)) (hra : va_RA s (w.2.1 t) ty → s.vm.findClass ("[" ++ ty.toString) = some (w.2.1 t)) (hby : componentBytes ty ≤ 8) (hce : ∀ N : Nat, va_at w.1 e_cl (e_ad w M.1, e_cell w (e_new M t N) M.1) = fun H' => H'[e_ad w M.1]? = some (arrV (w.2.1 t) N (fun _ => defaultValue ty)))
    (w1 : Cond.arrayClass ty ∈ e_big) (d : decode cc pc = .ok (.newarray at_, 2)) (h0 : ¬ n < 0) (h3 : n.toNatClampNeg ≤ 400000) (h1 : 1 ≤ kc) (h2 : n.toNatClampNeg ≤ ks)
    (h : k (kc - 1) (ks - n.toNatClampNeg) (pc + 2) lv (.ref M.1 :: r) (e_new M t n.toNatClampNeg)) : W p l e R s m args below meth c H locs cells slots Qf (F0 m pc ls ((.int n :: r).map (e_cv w))) := by
  subst hat
  have hsz := hH.lt
  have hpos := e_c0_pos hH.1
  have hB : n.toNatClampNeg * componentBytes (newarray.typeOf at_) ≤ 536870912 := Nat.le_trans (Nat.mul_le_mul h3 hby) (by decide)
  refine va_newaK hx hb (hts _ w1) rfl d rfl h0 rfl hB (by omega) (by omega) rfl fun H1 cA e1 z1 o1 hAr hNm => ?_
  have hcA : cA = w.2.1 t := Option.some.inj (hNm.symm.trans (hra (hG.1.2 t0 _ hty).2))
  subst hcA
  have h5 := hgo _ _ _ _ _ _ h H1 locs (cells + 1) (slots + n.toNatClampNeg) ls (hH.new (t := t) (n := n.toNatClampNeg) (by rw [hce, ← hsz]; exact e1) z1 o1) (e_S_new hS z1 o1) (by omega) (by omega) hl
  rw [List.map_cons, e_cv_ref hpos, ← hsz] at h5
  exact h5
theorem es_newarray (hx : p.tables.exec = Jvm.exec) (hb : c.code = cc) (hgo : e_Go p l e R s m args below meth c Qf w nL k) (hH : e_H w M s H) (hS : va_S (e_A w) s.heap H locs) (hc : cells + kc ≤ R.cells) (hs : slots + ks ≤ R.slots) (hl : lv_has ls nL (lv.map (e_cq w)))
    (hG : e_G w s) (hts : ∀ v ∈ e_big, v.before args s = true) {r : List Value} {t : Nat} {at_ : ArrayType} {n : Int32} (ht : (t = 20 ∧ at_ = .int ∧ Cond.arrayClass .int ∈ e_big) ∨ (t = 21 ∧ at_ = .long ∧ Cond.arrayClass .long ∈ e_big) ∨ (t = 22 ∧ at_ = .boolean ∧ Cond.arrayClass .boolean ∈ e_big)) (d : decode cc pc = .ok (.newarray at_, 2)) (h0 : ¬ n < 0) (h3 : n.toNatClampNeg ≤ 400000) (h1 : 1 ≤ kc) (h2 : n.toNatClampNeg ≤ ks)
    (h : k (kc - 1) (ks - n.toNatClampNeg) (pc + 2) lv (.ref M.1 :: r) (e_new M t n.toNatClampNeg)) : W p l e R s m args below meth c H locs cells slots Qf (F0 m pc ls ((.int n :: r).map (e_cv w))) := by
  rcases ht with ⟨rfl, rfl, w1⟩ | ⟨rfl, rfl, w1⟩ | ⟨rfl, rfl, w1⟩
  · refine e_newaR hx hb hgo hH hS hc hs hl hG hts (t := 20) (t0 := 0) (at_ := .int) (ty := .int) rfl rfl (fun z => z) (by decide) (fun N => ?_) w1 d h0 h3 h1 h2 h
    rw [e_cell_20 (by rw [e_new_t]), e_new_t, e_new_i]
    funext H'
    rfl
  · refine e_newaR hx hb hgo hH hS hc hs hl hG hts (t := 21) (t0 := 1) (at_ := .long) (ty := .long) rfl rfl (fun z => z) (by decide) (fun N => ?_) w1 d h0 h3 h1 h2 h
    rw [e_cell_21 (by rw [e_new_t]), e_new_t, e_new_l]
    funext H'
    rfl
  · refine e_newaR hx hb hgo hH hS hc hs hl hG hts (t := 22) (t0 := 2) (at_ := .boolean) (ty := .boolean) rfl rfl (fun z => z) (by decide) (fun N => ?_) w1 d h0 h3 h1 h2 h
    rw [e_cell_22 (by rw [e_new_t]), e_new_t, e_new_i]
    funext H'
    rfl
theorem e_anewR (hx : p.tables.exec = Jvm.exec) (hb : c.code = cc) (hgo : e_Go p l e R s m args below meth c Qf w nL k) (hH : e_H w M s H) (hS : va_S (e_A w) s.heap H locs) (hc : cells + kc ≤ R.cells) (hs : slots + ks ≤ R.slots) (hl : lv_has ls nL (lv.map (e_cq w)))
    (hG : e_G w s) (hts : ∀ v ∈ e_big, v.before args s = true) {own : String} (ho : s.vm.findClass own = some m.cls) {r : List Value} {t t0 x : Nat} {C : String} {n : Int32} (hty : (e_tys w)[t0]? = some (w.2.1 t, .object C)) (hov : va_AO C s) (hce : ∀ N : Nat, va_at w.1 e_cl (e_ad w M.1, e_cell w (e_new M t N) M.1) = fun H' => H'[e_ad w M.1]? = some (arrV (w.2.1 t) N (fun _ => .null)))
    (w1 : Cond.classLink own x C ∈ e_big) (d : decode cc pc = .ok (.anewarray x, 3)) (h0 : ¬ n < 0) (h3 : n.toNatClampNeg ≤ 400000) (h1 : 1 ≤ kc) (h2 : n.toNatClampNeg ≤ ks)
    (h : k (kc - 1) (ks - n.toNatClampNeg) (pc + 3) lv (.ref M.1 :: r) (e_new M t n.toNatClampNeg)) : W p l e R s m args below meth c H locs cells slots Qf (F0 m pc ls ((.int n :: r).map (e_cv w))) := by
  have hsz := hH.lt
  have hpos := e_c0_pos hH.1
  refine W.anew hx hb ho (hts _ w1) (va_AO.use hov) rfl d rfl h0 (by omega) (by omega) (by omega) fun cA kA comp f1 f2 f3 f4 => ?_
  generalize hH1 : H.push ({ cls := cA, slots := Array.replicate n.toNatClampNeg .null, vm := .none } : Cell) = H1
  have z1 : H1.size = H.size + 1 := by rw [← hH1, Array.size_push]
  have e1 : H1[H.size]? = some (arrV cA n.toNatClampNeg (fun _ => .null)) := by rw [← hH1, Array.getElem?_push_size, ← arrV_new]
  have o1 : ∀ q : Nat, q < H.size → H1[q]? = H[q]? := fun q hq => by rw [← hH1, Array.getElem?_push, if_neg (Nat.ne_of_lt hq)]
  obtain ⟨kA', comp', k1, k2, k3, k4⟩ := (hG.1.2 t0 _ hty).2
  have hcA : cA = w.2.1 t := Option.some.inj (f1.symm.trans k4)
  subst hcA
  have h5 := hgo _ _ _ _ _ _ h H1 locs (cells + 1) (slots + n.toNatClampNeg) ls (hH.new (t := t) (n := n.toNatClampNeg) (by rw [hce, ← hsz]; exact e1) z1 o1) (e_S_new hS z1 o1) (by omega) (by omega) hl
  rw [List.map_cons, e_cv_ref hpos, ← hsz] at h5
  exact h5
theorem es_anewarray (hx : p.tables.exec = Jvm.exec) (hb : c.code = cc) (hgo : e_Go p l e R s m args below meth c Qf w nL k) (hH : e_H w M s H) (hS : va_S (e_A w) s.heap H locs) (hc : cells + kc ≤ R.cells) (hs : slots + ks ≤ R.slots) (hl : lv_has ls nL (lv.map (e_cq w)))
    (hG : e_G w s) (hts : ∀ v ∈ e_big, v.before args s = true) {own : String} (ho : s.vm.findClass own = some m.cls) {r : List Value} {t x : Nat} {n : Int32} (ht : (t = 23 ∧ Cond.classLink own x "TierMill$Plan" ∈ e_big) ∨ (t = 24 ∧ Cond.classLink own x "TierMill$Shape" ∈ e_big)) (d : decode cc pc = .ok (.anewarray x, 3)) (h0 : ¬ n < 0) (h3 : n.toNatClampNeg ≤ 400000) (h1 : 1 ≤ kc) (h2 : n.toNatClampNeg ≤ ks)
    (h : k (kc - 1) (ks - n.toNatClampNeg) (pc + 3) lv (.ref M.1 :: r) (e_new M t n.toNatClampNeg)) : W p l e R s m args below meth c H locs cells slots Qf (F0 m pc ls ((.int n :: r).map (e_cv w))) := by
  rcases ht with ⟨rfl, w1⟩ | ⟨rfl, w1⟩
  · refine e_anewR hx hb hgo hH hS hc hs hl hG hts ho (t0 := 3) rfl hG.2.2.2.1 (fun N => ?_) w1 d h0 h3 h1 h2 h
    rw [e_cell_23 (by rw [e_new_t]), e_new_t, e_new_r]
    funext H'
    rfl
  · refine e_anewR hx hb hgo hH hS hc hs hl hG hts ho (t0 := 4) rfl hG.2.2.2.2.1 (fun N => ?_) w1 d h0 h3 h1 h2 h
    rw [e_cell_24 (by rw [e_new_t]), e_new_t, e_new_r]
    funext H'
    rfl
/-- a method's start and end -/
def e_Pc (w : eW) (av : List Value) (M : eM) : Array Value → State → Prop := va_Pc (av.map (e_cv w)) (fun U => e_G w U ∧ e_H w M U U.heap)
def e_Qc (w : eW) (K : eQ) : Array Value → State → Outcome → State → Prop := fun _ st oc t => (∃ (v : Option Value) (M' : eM), oc = .returned (v.map (e_cv w)) ∧ K v M' ∧ e_H w M' t t.heap) ∧ va_F (e_A w) st t
def e_ws (j : Nat) : List Cond := Cond.code (e_m j).1 (e_m j).2.1 (e_m j).2.2.1 (e_m j).2.2.2.1 :: e_big
def e_rm (d mc ms : Nat) : Room := { frames := d + 1, cells := mc, slots := ms, locals := 64 * (d + 1) }
def e_Cal (l : Launch) (R : Room) (w : eW) (cal : eC) : Prop := ∀ (j mc ms : Nat) (av : List Value) (M : eM) (K : eQ), cal j mc ms av M K → ∃ d' : Nat, Met l (e_m j).1 (e_ws j) (e_rm d' mc ms) (e_Pc w av M) (e_Qc w K) mc ms (e_A w) ∧ d' + 2 ≤ R.frames ∧ 64 * (d' + 2) ≤ R.locals
theorem e_Pc_blind (w : eW) (av : List Value) (M : eM) : FrameBlind (e_Pc w av M) := fun a U g mk q => ⟨q.1, e_G.same (s := U) rfl q.2.1, e_H.moved (Vm.Alike.refl U.vm) q.2.2⟩
theorem e_goodIn {X : List Cond} (h : ∀ w ∈ X, w ∈ e_big) : GoodIn e_big X := fun w hw => e_big_good w (h w hw)
theorem e_after (hgo : e_Go p l e R s m args below meth c Qf w nL k) (hS : va_S (e_A w) s.heap H locs) (hc : cells + kc ≤ R.cells) (hs : slots + ks ≤ R.slots) (hl : lv_has ls nL (lv.map (e_cq w))) {rest st0 : List Value} {mc ms : Nat} {a : Array Value} (h1 : mc ≤ kc) (h2 : ms ≤ ks)
    (hr : va_Run p l e R s m args below meth c H locs cells slots mc ms (F0 m pc ls st0) (rest.map (e_cv w)) (e_Qc w (fun v M' => k (kc - mc) (ks - ms) (pc + 3) lv (v.toList ++ rest) M') a) (e_A w)) : W p l e R s m args below meth c H locs cells slots Qf (F0 m pc ls st0) := by
  intro T hT X
  obtain ⟨v, st₀, t, T', L, h0, X', hL, e1, e2, ⟨⟨v', M', hv, hK, hH1⟩, hz, hk⟩, st⟩ := hr T hT X
  cases hv
  rw [h0] at hz hk
  have hH' : e_H w M' s T'.heap := by
    rw [e1]
    exact hH1.moved (by rw [← e2]; exact X'.warmed.alike.symm)
  have hS' : va_S (e_A w) s.heap T'.heap (locs ++ L) := ⟨Nat.le_trans hS.1 (by rw [e1]; exact hz), fun q g1 g2 => by rw [e1, hk q (Nat.lt_of_lt_of_le g1 hS.1) g2]; exact hS.2.1 q g1 g2, fun q hq => by
      rcases List.mem_append.mp hq with h | h
      · exact hS.2.2 q h
      · exact hL q h⟩
  obtain ⟨t2, a1, b1⟩ := hgo _ _ _ _ _ _ hK T'.heap (locs ++ L) (cells + mc) (slots + ms) ls hH' hS' (by omega) (by omega) hl T' rfl X'
  refine ⟨t2, st t2 ?_, b1⟩
  have e3 : (v'.toList ++ rest).map (e_cv w) = (v'.map (e_cv w)).toList ++ rest.map (e_cv w) := by cases v' <;> simp
  rw [e3] at a1
  exact a1
theorem e_okM_f {j na : Nat} {ps : List Nat} (h : e_okM j na ps = true) : Cond.code (e_m j).1 (e_m j).2.1 (e_m j).2.2.1 (e_m j).2.2.2.1 ∈ e_big ∧ Cond.initialized (e_m j).1.cls ∈ e_big ∧ (e_m j).1.cls ≠ "java/lang/invoke/MethodHandle" ∧ (e_m j).1.cls ≠ "java/lang/invoke/VarHandle" ∧ (parseMethodDescriptor (e_m j).1.desc).map (fun d => d.parameters.length) = some na ∧ (e_m j).2.2.1 ≤ 45 ∧ (plainName (e_m j).1.cls || (j == 997 || j == 998)) = true := by
  unfold e_okM at h
  simp only [Bool.and_eq_true, decide_eq_true_eq] at h
  obtain ⟨h1, h2, h3, h4, h5⟩ := h
  have := e_ats_big h1
  exact ⟨this _ (by simp), this _ (by simp), h2, h3, h4, h5⟩
theorem e_ws_big {j : Nat} (h : Cond.code (e_m j).1 (e_m j).2.1 (e_m j).2.2.1 (e_m j).2.2.2.1 ∈ e_big) : ∀ w ∈ e_ws j, w ∈ e_big := by
  intro v hv
  rcases List.mem_cons.mp hv with rfl | hv
  · exact h
  · exact hv
theorem es_callV (hx : p.tables.exec = Jvm.exec) (hb : c.code = cc) (hml : c.maxLocals = nL) (hgo : e_Go p l e R s m args below meth c Qf w nL k) (hH : e_H w M s H) (hS : va_S (e_A w) s.heap H locs) (hc : cells + kc ≤ R.cells) (hs : slots + ks ≤ R.slots) (hl : lv_has ls nL (lv.map (e_cq w)))
    (hG : e_G w s) (hts : ∀ v ∈ e_big, v.before args s = true) {own : String} (ho : s.vm.findClass own = some m.cls) {cal : eC} (hcal : e_Cal l R w cal) {st r : List Value} {j na x o ci : Nat} {ps : List Nat} {q : vw_C} (hM : e_okM j na ps = true) (w1 : Cond.methodLink own x (e_m j).1 ∈ e_big) (w2 : Cond.instanceMethod (e_m j).1 ∈ e_big) (w3 : Cond.selects (e_m j).1.cls (e_m j).1 (e_m j).1 ∈ e_big) (hq : e_cl[ci]? = some q) (hqn : q.1 = (e_m j).1.cls) (hob : e_ob M o ci)
    (hst : st.drop na = .ref o :: r) (hna : na ≤ st.length) (d : decode cc pc = .ok (.invokevirtual x, 3)) (h : e_cal k cal j kc ks (pc + 3) (.ref o :: (st.take na).reverse) lv r M) : W p l e R s m args below meth c H locs cells slots Qf (F0 m pc ls (st.map (e_cv w))) := by
  obtain ⟨h8, mc, ms, h1, h2, hK⟩ := h
  obtain ⟨d', hMet, hf, hlo⟩ := hcal _ _ _ _ _ _ hK
  obtain ⟨m1, m2, m3, m4, m5, m6, -⟩ := e_okM_f hM
  have hws := e_ws_big m1
  have hgd : GoodIn e_big (wsV own x (e_m j).1.cls (e_m j).1 (e_ws j)) := e_goodIn fun v hv => by
    unfold wsV at hv
    rcases List.mem_append.mp hv with hv | hv
    · simp only [List.mem_cons, List.not_mem_nil, or_false] at hv
      rcases hv with rfl | rfl | rfl | rfl <;> assumption
    · exact hws v hv
  have hat := e_at_ob hH hob (e_cl_lt hq)
  have hrec := va_recv hG.1 (e_P1 hat) hq (q0 := 0) rfl
  rw [hqn] at hrec
  have hav : (Value.ref (e_ad w o) :: (st.take na).reverse.map (e_cv w)).toArray = ((Value.ref o :: (st.take na).reverse).map (e_cv w)).toArray := by rw [List.map_cons, e_cv_ref (e_c0_pos hob.1)]
  refine e_after hgo hS hc hs hl h1 h2 (va_runV (As := (st.take na).reverse.map (e_cv w)) (b := e_ad w o) (C := (e_m j).1.cls) (n := na) ⟨hx, hb, hml, ho, hts⟩ hMet (cwV na hts hgd rfl rfl rfl ⟨rfl, m3, m4, m5⟩ ⟨hf, by show 8 + ((e_m j).2.2.1 + 11) + 64 * (d' + 1) ≤ R.locals; omega⟩) ⟨e_Pc_blind _ _ _, hrec, fun U hU hW => ⟨hav, hG.warm hW, by rw [hU]; exact hH.moved hW.alike⟩⟩ rfl (by simp; omega) hl.1 ?_ (lv_room (by rw [e_sum]; exact h8)) d ⟨by omega, by omega⟩)
  show st.map (e_cv w) = _
  rw [← List.map_reverse, List.reverse_reverse, ← e_cv_ref (e_c0_pos hob.1), ← List.map_cons, ← hst, ← List.map_append, List.take_append_drop]
theorem es_callS (hx : p.tables.exec = Jvm.exec) (hb : c.code = cc) (hml : c.maxLocals = nL) (hgo : e_Go p l e R s m args below meth c Qf w nL k) (hH : e_H w M s H) (hS : va_S (e_A w) s.heap H locs) (hc : cells + kc ≤ R.cells) (hs : slots + ks ≤ R.slots) (hl : lv_has ls nL (lv.map (e_cq w)))
    (hG : e_G w s) (hts : ∀ v ∈ e_big, v.before args s = true) {own : String} (ho : s.vm.findClass own = some m.cls) {cal : eC} (hcal : e_Cal l R w cal) {st : List Value} {j na x : Nat} {ps : List Nat} (hM : e_okM j na ps = true) (w1 : Cond.methodLink own x (e_m j).1 ∈ e_big) (w2 : Cond.static (e_m j).1 ∈ e_big)
    (hna : na ≤ st.length) (d : decode cc pc = .ok (.invokestatic x, 3)) (h : e_cal k cal j kc ks (pc + 3) (st.take na).reverse lv (st.drop na) M) : W p l e R s m args below meth c H locs cells slots Qf (F0 m pc ls (st.map (e_cv w))) := by
  obtain ⟨h8, mc, ms, h1, h2, hK⟩ := h
  obtain ⟨d', hMet, hf, hlo⟩ := hcal _ _ _ _ _ _ hK
  obtain ⟨m1, m2, m3, m4, m5, m6, -⟩ := e_okM_f hM
  have hws := e_ws_big m1
  have hgd : GoodIn e_big (va_wsS own x (e_m j).1 (e_ws j)) := e_goodIn fun v hv => by
    unfold va_wsS at hv
    rcases List.mem_append.mp hv with hv | hv
    · simp only [List.mem_cons, List.not_mem_nil, or_false] at hv
      rcases hv with rfl | rfl | rfl <;> assumption
    · exact hws v hv
  refine e_after hgo hS hc hs hl h1 h2 (va_runS (As := (st.take na).reverse.map (e_cv w)) (n := na) ⟨hx, hb, hml, ho, hts⟩ hMet (va_cwS na hts hgd rfl rfl rfl ⟨m3, m4, m5⟩ ⟨hf, by show 8 + ((e_m j).2.2.1 + 11) + 64 * (d' + 1) ≤ R.locals; omega⟩) ⟨e_Pc_blind _ _ _, fun U hU hW => ⟨rfl, hG.warm hW, by rw [hU]; exact hH.moved hW.alike⟩⟩ rfl (by simp; omega) hl.1 ?_ (lv_room (by rw [e_sum]; exact h8)) d ⟨by omega, by omega⟩)
  show st.map (e_cv w) = _
  rw [← List.map_reverse, List.reverse_reverse, ← List.map_append, List.take_append_drop]
theorem es_callI (hx : p.tables.exec = Jvm.exec) (hb : c.code = cc) (hml : c.maxLocals = nL) (hgo : e_Go p l e R s m args below meth c Qf w nL k) (hH : e_H w M s H) (hS : va_S (e_A w) s.heap H locs) (hc : cells + kc ≤ R.cells) (hs : slots + ks ≤ R.slots) (hl : lv_has ls nL (lv.map (e_cq w)))
    (hG : e_G w s) (hts : ∀ v ∈ e_big, v.before args s = true) {own : String} (ho : s.vm.findClass own = some m.cls) {cal : eC} (hcal : e_Cal l R w cal) {st r : List Value} {j na x o : Nat} {ps : List Nat} (hM : e_okM j na ps = true) (hret : (e_m j).2.2.2.1 = none) (hnm : (e_m j).1.name = "<init>") (w2 : Cond.instanceMethod (e_m j).1 ∈ e_big) (w1 : Cond.methodLink own x (e_m j).1 ∈ e_big ∨ (own, x, (e_m j).1) ∈ e_nsM) (hoc : e_c0 ≤ o)
    (hst : st.drop na = .ref o :: r) (hna : na ≤ st.length) (d : decode cc pc = .ok (.invokespecial x, 3)) (h : e_cal k cal j kc ks (pc + 3) (.ref o :: (st.take na).reverse) lv r M) : W p l e R s m args below meth c H locs cells slots Qf (F0 m pc ls (st.map (e_cv w))) := by
  obtain ⟨h8, mc, ms, h1, h2, hK⟩ := h
  obtain ⟨d', hMet, hf, hlo⟩ := hcal _ _ _ _ _ _ hK
  obtain ⟨m1, m2, m3, m4, m5, m6, -⟩ := e_okM_f hM
  have hws := e_ws_big m1
  have hgd : GoodIn e_big (e_ws j) := e_goodIn hws
  have hw0 : e_ws j = Cond.code (e_m j).1 (e_m j).2.1 (e_m j).2.2.1 none :: e_big := by unfold e_ws; rw [hret]
  have hav : (Value.ref (e_ad w o) :: (st.take na).reverse.map (e_cv w)).toArray = ((Value.ref o :: (st.take na).reverse).map (e_cv w)).toArray := by rw [List.map_cons, e_cv_ref (e_c0_pos hoc)]
  have hstk : st.map (e_cv w) = ((st.take na).reverse.map (e_cv w)).reverse ++ Value.ref (e_ad w o) :: r.map (e_cv w) := by
    rw [← List.map_reverse, List.reverse_reverse, ← e_cv_ref (e_c0_pos hoc), ← List.map_cons, ← hst, ← List.map_append, List.take_append_drop]
  have hR : d' + 1 + 1 ≤ R.frames ∧ 8 + ((e_m j).2.2.1 + 11) + 64 * (d' + 1) ≤ R.locals := ⟨hf, by omega⟩
  rcases w1 with w1 | w1
  · exact e_after hgo hS hc hs hl h1 h2 (va_runI (As := (st.take na).reverse.map (e_cv w)) (b := e_ad w o) (n := na) ⟨hx, hb, hml, ho, hts⟩ hMet (cwI na hts hgd hw0 rfl rfl (hts _ m2) (hts _ w1) (hts _ w2) hnm ⟨m3, m4, m5⟩ hR) ⟨e_Pc_blind _ _ _, fun U hU hW => ⟨hav, hG.warm hW, by rw [hU]; exact hH.moved hW.alike⟩⟩ rfl (by simp; omega) hl.1 hstk (lv_room (by rw [e_sum]; exact h8)) d ⟨by omega, by omega⟩)
  · exact e_after hgo hS hc hs hl h1 h2 (va_runIN (As := (st.take na).reverse.map (e_cv w)) (b := e_ad w o) (n := na) ⟨hx, hb, hml, ho, hts⟩ hMet ⟨va_cnB na hts hgd hw0 rfl rfl (hG.2.2.1 _ w1) (hts _ m2) ⟨m3, m4, m5⟩ hR, hnm, hts _ w2⟩ ⟨e_Pc_blind _ _ _, fun U hU hW => ⟨hav, hG.warm hW, by rw [hU]; exact hH.moved hW.alike⟩⟩ rfl (by simp; omega) hl.1 hstk (lv_room (by rw [e_sum]; exact h8)) d ⟨by omega, by omega⟩)
theorem es_objInit (hx : p.tables.exec = Jvm.exec) (hb : c.code = cc) (hml : c.maxLocals = nL) (hgo : e_Go p l e R s m args below meth c Qf w nL k) (hH : e_H w M s H) (hS : va_S (e_A w) s.heap H locs) (hc : cells + kc ≤ R.cells) (hs : slots + ks ≤ R.slots) (hl : lv_has ls nL (lv.map (e_cq w)))
    (hts : ∀ v ∈ e_big, v.before args s = true) {own : String} (ho : s.vm.findClass own = some m.cls) (hR : 1 ≤ R.frames ∧ 64 ≤ R.locals) {r : List Value} {x o : Nat} (w1 : Cond.methodLink own x objectInit ∈ e_big) (w2 : Cond.instanceMethod objectInit ∈ e_big) (w3 : Cond.code objectInit ⟨#[0xb1]⟩ 1 none ∈ e_big) (hoc : e_c0 ≤ o) (h8 : (r.map fun v => v.category).sum ≤ 8) (d : decode cc pc = .ok (.invokespecial x, 3))
    (h : k kc ks (pc + 3) lv r M) : W p l e R s m args below meth c H locs cells slots Qf (F0 m pc ls ((.ref o :: r).map (e_cv w))) := by
  rw [List.map_cons, e_cv_ref (e_c0_pos hoc)]
  have hr := lv_room (m := m) (pc := pc) (ls := ls) (rest := Value.ref (e_ad w o) :: r.map (e_cv w)) (st := r.map (e_cv w)) (by rw [e_sum]; exact h8)
  exact W.objInit hx hb ho (hts _ w1) (hts _ w2) (hts _ w3) rfl (by rw [hml]; exact hl.1) rfl d hR.1 (by omega) (hgo _ _ _ _ _ _ h H locs cells slots ls hH hS hc hs hl)
theorem es_mmax (hx : p.tables.exec = Jvm.exec) (hb : c.code = cc) (hml : c.maxLocals = nL) (hgo : e_Go p l e R s m args below meth c Qf w nL k) (hH : e_H w M s H) (hS : va_S (e_A w) s.heap H locs) (hc : cells + kc ≤ R.cells) (hs : slots + ks ≤ R.slots) (hl : lv_has ls nL (lv.map (e_cq w)))
    (hts : ∀ v ∈ e_big, v.before args s = true) {own : String} (ho : s.vm.findClass own = some m.cls) (hR : 1 ≤ R.frames ∧ 64 ≤ R.locals) {r : List Value} {z : Nat} {x y : Int32} (w1 : Cond.methodLink own z Lib.Math.max.name ∈ e_big) (w2 : Cond.static Lib.Math.max.name ∈ e_big) (w3 : Cond.initialized "java/lang/Math" ∈ e_big) (w4 : Cond.code Lib.Math.max.name Lib.Math.max.code 2 (some .int) ∈ e_big) (h8 : (r.map fun v => v.category).sum ≤ 8) (d : decode cc pc = .ok (.invokestatic z, 3))
    (h : k kc ks (pc + 3) lv (.int (if x < y then y else x) :: r) M) : W p l e R s m args below meth c H locs cells slots Qf (F0 m pc ls ((.int y :: .int x :: r).map (e_cv w))) := by
  have hsum : ((r.map (e_cv w)).map fun v => v.category).sum ≤ 8 := by rw [e_sum]; exact h8
  exact va_mmax hx hb (by rw [hml]; exact hl.1.symm) ho (hts _ w1) (hts _ w2) (hts _ w3) (hts _ w4) hR.1 (by omega) (by omega) (by omega) d (hgo _ _ _ _ _ _ h H locs cells slots ls hH hS hc hs hl)
theorem es_mmin (hx : p.tables.exec = Jvm.exec) (hb : c.code = cc) (hml : c.maxLocals = nL) (hgo : e_Go p l e R s m args below meth c Qf w nL k) (hH : e_H w M s H) (hS : va_S (e_A w) s.heap H locs) (hc : cells + kc ≤ R.cells) (hs : slots + ks ≤ R.slots) (hl : lv_has ls nL (lv.map (e_cq w)))
    (hts : ∀ v ∈ e_big, v.before args s = true) {own : String} (ho : s.vm.findClass own = some m.cls) (hR : 1 ≤ R.frames ∧ 64 ≤ R.locals) {r : List Value} {z : Nat} {x y : Int32} (w1 : Cond.methodLink own z Lib.Math.min.name ∈ e_big) (w2 : Cond.static Lib.Math.min.name ∈ e_big) (w3 : Cond.initialized "java/lang/Math" ∈ e_big) (w4 : Cond.code Lib.Math.min.name Lib.Math.min.code 2 (some .int) ∈ e_big) (h8 : (r.map fun v => v.category).sum ≤ 8) (d : decode cc pc = .ok (.invokestatic z, 3))
    (h : k kc ks (pc + 3) lv (.int (if y < x then y else x) :: r) M) : W p l e R s m args below meth c H locs cells slots Qf (F0 m pc ls ((.int y :: .int x :: r).map (e_cv w))) := by
  have hsum : ((r.map (e_cv w)).map fun v => v.category).sum ≤ 8 := by rw [e_sum]; exact h8
  exact va_mmin hx hb (by rw [hml]; exact hl.1.symm) ho (hts _ w1) (hts _ w2) (hts _ w3) (hts _ w4) hR.1 (by omega) (by omega) (by omega) d (hgo _ _ _ _ _ _ h H locs cells slots ls hH hS hc hs hl)
theorem e_cell_cpy {a b j : Nat} {sp dp n : Int32} (h : j ≠ b) : e_cell w (e_cpy M a sp b dp n) j = e_cell w M j := by
  simp only [e_cell, e_cpy, e_fs, e_gv, va_up_ne _ _ h]
theorem es_copy (hx : p.tables.exec = Jvm.exec) (hb : c.code = cc) (hml : c.maxLocals = nL) (hgo : e_Go p l e R s m args below meth c Qf w nL k) (hH : e_H w M s H) (hS : va_S (e_A w) s.heap H locs) (hc : cells + kc ≤ R.cells) (hs : slots + ks ≤ R.slots) (hl : lv_has ls nL (lv.map (e_cq w)))
    (hG : e_G w s) (hts : ∀ v ∈ e_big, v.before args s = true) {own : String} (ho : s.vm.findClass own = some m.cls) (hR : 1 ≤ R.frames ∧ 64 ≤ R.locals) {r : List Value} {x a b : Nat} {sp dp n : Int32} (w1 : Cond.methodLink own x arraycopyName ∈ e_big) (w2 : Cond.native arraycopyName ∈ e_big) (w3 : Cond.static arraycopyName ∈ e_big) (w4 : Cond.initialized "java/lang/System" ∈ e_big) (g : e_cg M a sp b dp n) (h8 : (r.map fun v => v.category).sum ≤ 8) (d : decode cc pc = .ok (.invokestatic x, 3))
    (h : k kc ks (pc + 3) lv r (e_cpy M a sp b dp n)) : W p l e R s m args below meth c H locs cells slots Qf (F0 m pc ls ((.int n :: .int dp :: .ref b :: .int sp :: .ref a :: r).map (e_cv w))) := by
  obtain ⟨⟨a1, a2, a3⟩, ⟨b1, b2, b3⟩, h1, h2, h3, h4, h5⟩ := g
  have nn : ∀ z : Int32, ¬ z < 0 → z.toInt = (z.toNatClampNeg : Int) := by
    intro z hz
    have hz0 : (0 : Int) ≤ z.toInt := by
      have := Int32.not_lt.mp hz
      simpa using Int32.le_iff_toInt_le.mp this
    show z.toInt = ((z.toInt.toNat : Nat) : Int)
    omega
  have hc0 := hH.2.2.1 a a1 a2 (by rw [a3]; decide)
  have hc1 := hH.2.2.1 b b1 b2 (by rw [b3]; decide)
  rw [e_cell_20 a3] at hc0
  rw [e_cell_20 b3] at hc1
  have hc0 : H[e_ad w a]? = some (vp_cell (w.2.1 20) ((M.2.1 a).2, .inl (M.2.2.1 a))) := hc0
  have hc1 : H[e_ad w b]? = some (vp_cell (w.2.1 20) ((M.2.1 b).2, .inl (M.2.2.1 b))) := hc1
  rw [List.map_cons, List.map_cons, List.map_cons, List.map_cons, List.map_cons, e_cv_ref (e_c0_pos a1), e_cv_ref (e_c0_pos b1)]
  intro T hT X
  obtain ⟨-, k0, hk0, cm0, hkk0⟩ := (hG.1.2 0 _ rfl).1 (M.2.1 a).2 (fun j => .int (M.2.2.1 a j))
  obtain ⟨-, k1, hk1, cm1, hkk1⟩ := (hG.1.2 0 _ rfl).1 (M.2.1 b).2 (fun j => .int (M.2.2.1 b j))
  have hsum : ((r.map (e_cv w)).map fun v => v.category).sum ≤ 8 := by rw [e_sum]; exact h8
  have hnw : nativeFrameWords "java/lang/System" "arraycopy" 5 = 7 := by decide +kernel
  obtain ⟨vm', X', step⟩ := X.arraycopy hx ho (hts _ w1) (hts _ w2) (hts _ w3) (hts _ w4) (src := e_ad w a) (dst := e_ad w b) (cs := vp_cell (w.2.1 20) ((M.2.1 a).2, .inl (M.2.2.1 a))) (cd := vp_cell (w.2.1 20) ((M.2.1 b).2, .inl (M.2.2.1 b))) (srcPos := sp) (destPos := dp) (n := n) (by rw [hT]; exact hc0) (by rw [hT]; exact hc1)
    (fun _ h => by cases h) (fun _ h => by cases h) (fun h => by cases h) (fun h => by cases h) hk0 hk1 hkk0 hkk1 (by simp [refKind]) h1 h2 h3
    (by rw [nn sp h1, nn n h3]; show ¬ _ > ((arrV (w.2.1 20) (M.2.1 a).2 (fun j => .int (M.2.2.1 a j))).slots.size : Int); rw [arrV_size]; omega)
    (by rw [nn dp h2, nn n h3]; show ¬ _ > ((arrV (w.2.1 20) (M.2.1 b).2 (fun j => .int (M.2.2.1 b j))).slots.size : Int); rw [arrV_size]; omega)
    (fun vm₁ _ i hi => by
      have e : (vp_cell (w.2.1 20) ((M.2.1 a).2, .inl (M.2.2.1 a))).slots.getD (sp.toNatClampNeg + i) .null = .int (M.2.2.1 a (sp.toNatClampNeg + i)) := by
        show (arrV (w.2.1 20) (M.2.1 a).2 (fun j => .int (M.2.2.1 a j))).slots.getD _ _ = _
        rw [Array.getD_eq_getD_getElem?, arrV_read _ _ (by omega)]
        rfl
      refine ⟨?_, ?_⟩
      · rw [e]; rfl
      · rw [e]; exact trivial)
    (g := F0 m pc ls (.int n :: .int dp :: .ref (e_ad w b) :: .int sp :: .ref (e_ad w a) :: r.map (e_cv w))) rfl (by rw [hml]; exact hl.1) (rest := r.map (e_cv w)) rfl (by rw [hb]; exact d) hR.1 (by show 2 * 0 + _ + _ ≤ _; omega)
  have e1 : copied (vp_cell (w.2.1 20) ((M.2.1 a).2, .inl (M.2.2.1 a))) (vp_cell (w.2.1 20) ((M.2.1 b).2, .inl (M.2.2.1 b))) sp dp n = vp_cell (w.2.1 20) ((M.2.1 b).2, .inl (va_cpy (M.2.2.1 a) (M.2.2.1 b) sp.toNatClampNeg dp.toNatClampNeg n.toNatClampNeg)) := va_copied (fun z => .int z) (w.2.1 20) (w.2.1 20) (M.2.2.1 a) (M.2.2.1 b) h4
  rw [e1] at X' step
  have hlt : e_ad w b < H.size := (Array.getElem?_eq_some_iff.mp hc1).1
  have hheap : ((T.setVm vm').setCell (e_ad w b) (vp_cell (w.2.1 20) ((M.2.1 b).2, .inl (va_cpy (M.2.2.1 a) (M.2.2.1 b) sp.toNatClampNeg dp.toNatClampNeg n.toNatClampNeg)))).heap = H.setIfInBounds (e_ad w b) (vp_cell (w.2.1 20) ((M.2.1 b).2, .inl (va_cpy (M.2.2.1 a) (M.2.2.1 b) sp.toNatClampNeg dp.toNatClampNeg n.toNatClampNeg))) := by rw [← hT]; rfl
  have oq : ∀ q : Nat, q ≠ e_ad w b → (H.setIfInBounds (e_ad w b) (vp_cell (w.2.1 20) ((M.2.1 b).2, .inl (va_cpy (M.2.2.1 a) (M.2.2.1 b) sp.toNatClampNeg dp.toNatClampNeg n.toNatClampNeg))))[q]? = H[q]? := fun q hq => by simp [Array.getElem?_setIfInBounds, Ne.symm hq]
  have hb2 : va_at w.1 e_cl (e_ad w b, e_cell w (e_cpy M a sp b dp n) b) (H.setIfInBounds (e_ad w b) (vp_cell (w.2.1 20) ((M.2.1 b).2, .inl (va_cpy (M.2.2.1 a) (M.2.2.1 b) sp.toNatClampNeg dp.toNatClampNeg n.toNatClampNeg)))) := by
    rw [e_cell_20 (w := w) (M := e_cpy M a sp b dp n) b3]
    show (H.setIfInBounds (e_ad w b) _)[e_ad w b]? = some (vp_cell (w.2.1 20) ((M.2.1 b).2, .inl (va_up M.2.2.1 b _ b)))
    rw [va_up_self]
    simp [Array.getElem?_setIfInBounds, hlt]
  obtain ⟨t, q1, q2⟩ := hgo _ _ _ _ _ _ h _ _ cells slots ls (hH.put b1 rfl rfl (fun j hj => va_up_ne _ _ hj) (fun j hj => e_cell_cpy hj) hb2 (by simp) oq) ⟨by simp; exact hS.1, fun q g1 g2 => by
      rw [oq q (fun e => g2 (by rw [e]; exact e_ad_A b1))]
      exact hS.2.1 q g1 g2, fun q hq => by
      rcases List.mem_append.mp hq with h | h
      · exact hS.2.2 q h
      · obtain ⟨z, -, hz⟩ := List.mem_map.mp h
        rw [← hz]
        exact e_ad_A b1⟩ hc hs hl _ hheap X'
  exact ⟨t, step t q1, q2⟩
end CAL
section RET
variable {p : Program} {l : Launch} {e : Env} {R : Room} {s : State} {m : MethodId} {args : Array Value} {below : List Frame} {meth : Method} {c : Code} {w : eW}
variable {cc : ByteArray} {H : Heap} {locs : List Loc} {cells slots pc : Nat} {ls : Array Slot} {M : eM} {Q : eQ}
theorem es_ret (hx : p.tables.exec = Jvm.exec) (hb : c.code = cc) (hH : e_H w M s H) (hS : va_S (e_A w) s.heap H locs) (hc : cells ≤ R.cells) (hs : slots ≤ R.slots) (hlo : meth.locks = false) (hr : meth.sig.returnType = none) (d : decode cc pc = .ok (.return_, 1)) (h : Q none M) : W p l e R s m args below meth c H locs cells slots (MQ below (e_Qc w Q) args s R.cells R.slots (e_A w)) (F0 m pc ls []) := by
  refine W.widen hc hs ?_
  exact W.vret hx hb hr (fun t ht hW => ⟨⟨none, M, rfl, h, by rw [ht]; exact hH.moved hW.alike⟩, hS.F ht⟩) hS.2.2 d hlo
theorem es_iret (hx : p.tables.exec = Jvm.exec) (hb : c.code = cc) (hH : e_H w M s H) (hS : va_S (e_A w) s.heap H locs) (hc : cells ≤ R.cells) (hs : slots ≤ R.slots) (hlo : meth.locks = false) {x : Int32} (hr : meth.sig.returnType = some .int ∨ (meth.sig.returnType = some .boolean ∧ (x = 0 ∨ x = 1))) (d : decode cc pc = .ok (.ireturn, 1)) (h : Q (some (.int x)) M) : W p l e R s m args below meth c H locs cells slots (MQ below (e_Qc w Q) args s R.cells R.slots (e_A w)) (F0 m pc ls [.int x]) := by
  refine W.widen hc hs ?_
  rcases hr with hr | ⟨hr, hxx⟩
  · exact W.iret hx hb hr (fun t ht hW => ⟨⟨some (.int x), M, rfl, h, by rw [ht]; exact hH.moved hW.alike⟩, hS.F ht⟩) hS.2.2 d hlo
  · exact W.zret hx hb hr (by rcases hxx with rfl | rfl <;> decide) (fun t ht hW => ⟨⟨some (.int x), M, rfl, h, by rw [ht]; exact hH.moved hW.alike⟩, hS.F ht⟩) hS.2.2 d hlo
theorem es_lret (hx : p.tables.exec = Jvm.exec) (hb : c.code = cc) (hH : e_H w M s H) (hS : va_S (e_A w) s.heap H locs) (hc : cells ≤ R.cells) (hs : slots ≤ R.slots) (hlo : meth.locks = false) {x : Int64} (hr : meth.sig.returnType = some .long) (d : decode cc pc = .ok (.lreturn, 1)) (h : Q (some (.long x)) M) : W p l e R s m args below meth c H locs cells slots (MQ below (e_Qc w Q) args s R.cells R.slots (e_A w)) (F0 m pc ls [.long x]) := by
  refine W.widen hc hs ?_
  exact W.lret hx hb hr (fun t ht hW => ⟨⟨some (.long x), M, rfl, h, by rw [ht]; exact hH.moved hW.alike⟩, hS.F ht⟩) hS.2.2 d hlo
theorem es_aret (hx : p.tables.exec = Jvm.exec) (hb : c.code = cc) (hH : e_H w M s H) (hS : va_S (e_A w) s.heap H locs) (hc : cells ≤ R.cells) (hs : slots ≤ R.slots) (hlo : meth.locks = false) {x : Nat} (hr : (∃ n, meth.sig.returnType = some (.object n)) ∨ ∃ t, meth.sig.returnType = some (.array t)) (d : decode cc pc = .ok (.areturn, 1)) (h : Q (some (.ref x)) M) : W p l e R s m args below meth c H locs cells slots (MQ below (e_Qc w Q) args s R.cells R.slots (e_A w)) (F0 m pc ls [e_cv w (.ref x)]) := by
  refine W.widen hc hs ?_
  have hv : e_cv w (.ref x) = .null ∨ ∃ a, e_cv w (.ref x) = .ref a := by
    show e_rv w x = .null ∨ ∃ a, e_rv w x = .ref a
    unfold e_rv
    split
    · exact Or.inl rfl
    · exact Or.inr ⟨_, rfl⟩
  rcases hr with ⟨n, hr⟩ | ⟨n, hr⟩
  · exact W.aret hx hb hr (Or.inl ⟨n, rfl⟩) hv (fun t ht hW => ⟨⟨some (.ref x), M, rfl, h, by rw [ht]; exact hH.moved hW.alike⟩, hS.F ht⟩) hS.2.2 d hlo
  · exact W.aret hx hb hr (Or.inr ⟨n, rfl⟩) hv (fun t ht hW => ⟨⟨some (.ref x), M, rfl, h, by rw [ht]; exact hH.moved hW.alike⟩, hS.F ht⟩) hS.2.2 d hlo
end RET
