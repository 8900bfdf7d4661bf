/-! ===== the law's five: a call that may throw, and is caught ===== -/
/-- of a throw's number: the handler's place among the rows, and what comes back -/
def e_hk (i a : Nat) : Option (Nat × Int) := if i = 79 then (if a = 91 then some (0, 1) else none) else if i = 80 then (if a = 91 then some (0, 1) else if a = 92 then some (1, 2) else if a = 93 then some (2, 3) else none) else (if a = 94 then some (0, 1) else none)
def e_hh (i : Nat) : List (Nat × Nat × Nat × Nat) := if i = 79 then [(0, 8, 11, 13)] else if i = 80 then [(0, 9, 12, 13), (0, 9, 15, 19), (0, 9, 18, 21)] else if i = 81 then [(0, 9, 12, 26)] else if i = 82 then [(0, 10, 13, 26)] else [(0, 12, 15, 26)]
def e_hpc (i : Nat) : Nat := if i = 79 then 3 else if i = 80 ∨ i = 81 then 4 else if i = 82 then 5 else 7
def e_ct (t : Nat) : String := if t = 13 then e_exn 91 else if t = 19 then e_exn 92 else if t = 21 then e_exn 93 else e_exn 94
/-- what stands at a handler: astore, iconst, ireturn -/
def e_hd (i hp : Nat) (n : Int) : Prop := ∃ ln, ((∃ j : Fin 4, ln = 1 ∧ (j : Nat) < (e_m i).2.2.1 ∧ decode (e_m i).2.1 hp = .ok (.astore_n j, 1)) ∨ (∃ j : Nat, ln = 2 ∧ j < (e_m i).2.2.1 ∧ decode (e_m i).2.1 hp = .ok (.astore j, 2))) ∧ decode (e_m i).2.1 (hp + ln) = .ok (.iconst n, 1) ∧ decode (e_m i).2.1 (hp + ln + 1) = .ok (.ireturn, 1)
theorem e_hd236 : e_hd 79 11 1 := ⟨1, Or.inl ⟨2, rfl, by decide +kernel, by decide +kernel⟩, by decide +kernel, by decide +kernel⟩
theorem e_hd237a : e_hd 80 12 1 := ⟨1, Or.inl ⟨3, rfl, by decide +kernel, by decide +kernel⟩, by decide +kernel, by decide +kernel⟩
theorem e_hd237b : e_hd 80 15 2 := ⟨1, Or.inl ⟨3, rfl, by decide +kernel, by decide +kernel⟩, by decide +kernel, by decide +kernel⟩
theorem e_hd237c : e_hd 80 18 3 := ⟨1, Or.inl ⟨3, rfl, by decide +kernel, by decide +kernel⟩, by decide +kernel, by decide +kernel⟩
theorem e_hd238 : e_hd 81 12 1 := ⟨1, Or.inl ⟨3, rfl, by decide +kernel, by decide +kernel⟩, by decide +kernel, by decide +kernel⟩
theorem e_hd239 : e_hd 82 13 1 := ⟨2, Or.inr ⟨4, rfl, by decide +kernel, by decide +kernel⟩, by decide +kernel, by decide +kernel⟩
theorem e_hd240 : e_hd 83 15 1 := ⟨2, Or.inr ⟨5, rfl, by decide +kernel, by decide +kernel⟩, by decide +kernel, by decide +kernel⟩
/-- the rows of the table that are gone by, and the one that takes it -/
def e_hok (i a k : Nat) (n : Int) : Prop := ∃ (x : Nat × Nat × Nat × Nat), (e_hh i)[k]? = some x ∧ (x.1 ≤ e_hpc i ∧ e_hpc i < x.2.1) ∧ x.2.2.2 ≠ 0 ∧ e_ct x.2.2.2 = e_exn a ∧ e_hd i x.2.2.1 n ∧ Cond.classLink "TierMillLaw" x.2.2.2 (e_exn a) ∈ e_big ∧ Cond.castable (e_exn a) (e_exn a) ∈ e_dw ∧ ∀ z ∈ (e_hh i).take k, z.2.2.2 ≠ 0 ∧ Cond.classLink "TierMillLaw" z.2.2.2 (e_ct z.2.2.2) ∈ e_big ∧ (e_exn a, e_ct z.2.2.2) ∈ e_ncs
def e_cl4 : Bool := [13, 19, 21, 26].all (fun t => e_big.contains (Cond.classLink "TierMillLaw" t (e_ct t))) && [91, 92, 93, 94].all (fun a => e_dw.contains (Cond.castable (e_exn a) (e_exn a)))
theorem e_cl4_ok : e_cl4 = true := by decide +kernel
theorem e_cl4_f : (∀ t ∈ [13, 19, 21, 26], Cond.classLink "TierMillLaw" t (e_ct t) ∈ e_big) ∧ ∀ a ∈ [91, 92, 93, 94], Cond.castable (e_exn a) (e_exn a) ∈ e_dw := by
  have h := e_cl4_ok
  unfold e_cl4 at h
  simpa only [Bool.and_eq_true, List.all_eq_true, List.contains_iff_mem] using h
theorem e_hok_all {i a : Nat} (hi : 79 ≤ i ∧ i ≤ 83) {k : Nat} {n : Int} (h : e_hk i a = some (k, n)) : e_hok i a k n := by
  obtain ⟨w1, w2⟩ := e_cl4_f
  have hi : i = 79 ∨ i = 80 ∨ i = 81 ∨ i = 82 ∨ i = 83 := by omega
  rcases hi with rfl | rfl | rfl | rfl | rfl
  · by_cases ha : a = 91
    · subst ha; cases h
      exact ⟨(0, 8, 11, 13), rfl, by decide, by decide, rfl, e_hd236, w1 13 (by simp), w2 91 (by simp), fun z hz => nomatch hz⟩
    · simp [e_hk, ha] at h
  · by_cases ha : a = 91
    · subst ha; cases h
      exact ⟨(0, 9, 12, 13), rfl, by decide, by decide, rfl, e_hd237a, w1 13 (by simp), w2 91 (by simp), fun z hz => nomatch hz⟩
    · by_cases ha : a = 92
      · subst ha; cases h
        refine ⟨(0, 9, 15, 19), rfl, by decide, by decide, rfl, e_hd237b, w1 19 (by simp), w2 92 (by simp), fun z hz => ?_⟩
        have hz : z ∈ [(0, 9, 12, 13)] := hz
        simp only [List.mem_singleton] at hz
        subst hz
        exact ⟨by decide, w1 13 (by simp), by decide +kernel⟩
      · by_cases ha : a = 93
        · subst ha; cases h
          refine ⟨(0, 9, 18, 21), rfl, by decide, by decide, rfl, e_hd237c, w1 21 (by simp), w2 93 (by simp), fun z hz => ?_⟩
          have hz : z ∈ [(0, 9, 12, 13), (0, 9, 15, 19)] := hz
          simp only [List.mem_cons, List.not_mem_nil, or_false] at hz
          rcases hz with rfl | rfl
          · exact ⟨by decide, w1 13 (by simp), by decide +kernel⟩
          · exact ⟨by decide, w1 19 (by simp), by decide +kernel⟩
        · simp_all [e_hk]
  · by_cases ha : a = 94
    · subst ha; cases h
      exact ⟨(0, 9, 12, 26), rfl, by decide, by decide, rfl, e_hd238, w1 26 (by simp), w2 94 (by simp), fun z hz => nomatch hz⟩
    · simp [e_hk, ha] at h
  · by_cases ha : a = 94
    · subst ha; cases h
      exact ⟨(0, 10, 13, 26), rfl, by decide, by decide, rfl, e_hd239, w1 26 (by simp), w2 94 (by simp), fun z hz => nomatch hz⟩
    · simp [e_hk, ha] at h
  · by_cases ha : a = 94
    · subst ha; cases h
      exact ⟨(0, 12, 15, 26), rfl, by decide, by decide, rfl, e_hd240, w1 26 (by simp), w2 94 (by simp), fun z hz => nomatch hz⟩
    · simp [e_hk, ha] at h
def e_tab (am : eAm) (i : Nat) : Prop := match am with
  | (_, _, _, _, _, _, _, _, _, c, _, _) => c.exceptionTable.toList = tableOf (e_hh i)
set_option maxHeartbeats 2000000 in
theorem f_callX {am : eAm} {i d d' mc ms kc ks pc : Nat} {lv : eL} {x j na o : Nat} {z : Int} {st r : List Value} {M : eM} {Q K : eQ} (hi : 79 ≤ i ∧ i ≤ 83) (hpc : pc = e_hpc i) (htab : e_tab am i) (hirt : (e_m i).2.2.2.1 = some .int)
    (hd : d = d' + 1) (hd5 : 5 ≤ d') (hq : e_dec i pc = some (.invokevirtual x, 3, j, 11, z)) (hj : j ∈ e_fiv) (hz : z.toNat = na) (hdr : st.drop na = .ref o :: r) (hle : na ≤ st.length) (hlen : (lg_sl (.ref o :: (st.take na).reverse)).length ≤ (e_m j).2.2.1) (h8 : (r.map fun v => v.category).sum ≤ 8) (g : e_ob M o 11) (g1 : mc ≤ kc) (g2 : ms ≤ ks) (hC : e_C j d' mc ms (.ref o :: (st.take na).reverse) M K)
    (hn : ∀ v M', e_nr K v M' → e_F am i d (kc - mc) (ks - ms) (pc + 3) lv (v.toList ++ r) M' Q)
    (hxx : ∀ a M', 91 ≤ a → a ≤ 94 → K (some (.retAddr a)) M' → ∃ k n, e_hk i a = some (k, n) ∧ ∀ g, Q (some (.int (Int32.ofInt n))) (e_gap M' g)) : e_F am i d kc ks pc lv st M Q := by
  intro A
  have A0 := A
  obtain ⟨p, l, e, R, s, m, args, below, meth, c, Qf, w⟩ := am
  obtain ⟨hOk, hOkM, hL, ⟨hx, hb, hml, ho, hts⟩, ⟨hnm, hlo, hret⟩, ⟨hG, hD, hst⟩, ⟨hf, hlc⟩, hmq⟩ := A
  intro H locs cells slots ls hH hS hc hs hl
  obtain ⟨hdg, ps1, hok1⟩ := hL pc (.invokevirtual x, 3, j, 11, z) (e_dec_mem (i := i) hq) rfl
  have hj236 : j < 79 := by
    have h5 : e_fiv.all (fun i => decide (i < 79)) = true := by decide
    simpa using List.all_eq_true.mp h5 j hj
  unfold e_okI at hok1
  rw [Bool.and_eq_true] at hok1
  have hok := (Bool.or_eq_true _ _).mp hok1.2 |>.resolve_left (fun q => absurd (of_decide_eq_true q) (by show ¬ 900 ≤ j; omega))
  rw [Bool.and_eq_true, Bool.and_eq_true, decide_eq_true_eq] at hok
  obtain ⟨⟨-, hna⟩, hw, hcl⟩ := hok
  have hw := e_ats_big hw
  obtain ⟨ps9, hM⟩ := hOkM j hj236
  have hna : z.toNat = e_pn j := hna
  rw [← hna, hz] at hM
  obtain ⟨n, hwp⟩ := hC (e_args_fun _ 0)
  have hMet := e_metX hOk hOkM l hst w hj hd5 hlen hwp
  obtain ⟨m1, m2, m3, m4, m5, m6, -⟩ := e_okM_f hM
  have hws := e_ws_big m1
  have w1 : Cond.methodLink "TierMillLaw" x (e_m j).1 ∈ e_big := hw _ (by simp)
  have w2 : Cond.instanceMethod (e_m j).1 ∈ e_big := hw _ (by simp)
  have w3 : Cond.selects (e_m j).1.cls (e_m j).1 (e_m j).1 ∈ e_big := hw _ (by simp)
  have hgd : GoodIn e_big (wsV "TierMillLaw" x (e_m j).1.cls (e_m j).1 (e_ws j)) := e_goodIn fun v hv => by
    unfold wsV at hv
    rcases List.mem_append.mp hv with hv | hv
    · simp only [List.mem_cons, List.not_mem_nil, or_false] at hv
      rcases hv with rfl | rfl | rfl | rfl <;> assumption
    · exact hws v hv
  cases hq11 : e_cl[11]? with
  | none => simp only [hq11] at hcl; cases hcl
  | some q11 =>
    simp only [hq11] at hcl
    have hqn := eq_of_beq hcl
    have hat := e_at_ob hH g (e_cl_lt hq11)
    have hrec := va_recv hG.1 (e_P1 hat) hq11 (q0 := 0) rfl
    rw [hqn] at hrec
    have hav : (Value.ref (e_ad w o) :: (st.take na).reverse.map (e_cv w)).toArray = ((Value.ref o :: (st.take na).reverse).map (e_cv w)).toArray := by rw [List.map_cons, e_cv_ref (e_c0_pos g.1)]
    subst hd
    have hr := vx_runV (e := e) (cells := cells) (slots := slots) (locs := locs) (below := below) (meth := meth) (g := F0 m pc ls (st.map (e_cv w))) (rest := r.map (e_cv w)) (As := (st.take na).reverse.map (e_cv w)) (b := e_ad w o) (C := (e_m j).1.cls) (n := na) ⟨hx, hb, hml, ho, hts⟩ hMet (cwV na hts hgd rfl rfl rfl ⟨rfl, m3, m4, m5⟩ ⟨by show d' + 1 + 1 ≤ R.frames; omega, by show 8 + ((e_m j).2.2.1 + 11) + 64 * (d' + 1) ≤ R.locals; omega⟩) ⟨e_PcD_blind _ _ _, hrec, fun U hU hW => ⟨hav, hG.warm hW, hD.warm hW, by rw [hU]; exact hH.moved hW.alike⟩⟩ rfl (by simp; omega) hl.1 (by
      show st.map (e_cv w) = _
      rw [← List.map_reverse, List.reverse_reverse, ← e_cv_ref (e_c0_pos g.1), ← List.map_cons, ← hdr, ← List.map_append, List.take_append_drop]) (lv_room (by rw [e_sum]; exact h8)) hdg ⟨by omega, by omega⟩
    intro T hT X
    rcases hr T hT X with ⟨v, st₀, t, T', L, h0, X', hLb, e1, e2, ⟨⟨v', M', hv, hK, hH1⟩, hz1, hk1⟩, st9⟩ | ⟨q, st₀, t, T', L, E, ce, h0, X', hLb, e1, e2, ⟨⟨a, M', gp, ha, ha2, rfl, hK, hH1⟩, hz1, hk1⟩, hce, hcv, hclE, st9⟩
    · cases hv
      rw [h0] at hz1 hk1
      have hH' : e_H w M' s T'.heap := by
        rw [e1]
        exact hH1.moved (by rw [← e2]; exact X'.warmed.alike.symm)
      have hS' : va_S (e_A w) s.heap T'.heap (locs ++ L) := ⟨Nat.le_trans hS.1 (by rw [e1]; exact hz1), fun q g1 g2 => by rw [e1, hk1 q (Nat.lt_of_lt_of_le g1 hS.1) g2]; exact hS.2.1 q g1 g2, fun q hq => by
          rcases List.mem_append.mp hq with h | h
          · exact hS.2.2 q h
          · exact hLb q h⟩
      obtain ⟨t2, a1, b1⟩ := hn v' M' hK A0 T'.heap (locs ++ L) (cells + mc) (slots + ms) ls hH' hS' (by omega) (by omega) hl T' rfl X'
      refine ⟨t2, st9 t2 ?_, b1⟩
      have e3 : (v'.toList ++ r).map (e_cv w) = (v'.map (e_cv w)).toList ++ r.map (e_cv w) := by cases v' <;> simp
      rw [e3] at a1
      exact a1
    · rw [h0] at hz1 hk1
      have hH' : e_H w (e_gap M' gp) s T'.heap := by
        rw [e1]
        exact hH1.moved (by rw [← e2]; exact X'.warmed.alike.symm)
      have hS' : va_S (e_A w) s.heap T'.heap (locs ++ L) := ⟨Nat.le_trans hS.1 (by rw [e1]; exact hz1), fun q g1 g2 => by rw [e1, hk1 q (Nat.lt_of_lt_of_le g1 hS.1) g2]; exact hS.2.1 q g1 g2, fun q hq => by
          rcases List.mem_append.mp hq with h | h
          · exact hS.2.2 q h
          · exact hLb q h⟩
      obtain ⟨k, n9, hk9, hQ9⟩ := hxx a M' ha ha2 hK
      obtain ⟨xr, hx1, hx2, hx3, hx4, ⟨ln, hx5, hx6, hx7⟩, hx8, hx9, hx10⟩ := e_hok_all hi hk9
      have hklt : k < (e_hh i).length := (List.getElem?_eq_some_iff.mp hx1).1
      have hsplit : c.exceptionTable.toList = (tableOf (e_hh i)).take k ++ (⟨xr.1, xr.2.1, xr.2.2.1, xr.2.2.2⟩ : ExceptionTableEntry) :: (tableOf (e_hh i)).drop (k + 1) := by
        have h1 : c.exceptionTable.toList = tableOf (e_hh i) := htab
        have h2 : (tableOf (e_hh i))[k]? = some (⟨xr.1, xr.2.1, xr.2.2.1, xr.2.2.2⟩ : ExceptionTableEntry) := by unfold tableOf; rw [List.getElem?_map, hx1]; rfl
        obtain ⟨h3, h4⟩ := List.getElem?_eq_some_iff.mp h2
        rw [h1, ← h4, ← List.drop_eq_getElem_cons h3, List.take_append_drop]
      have hkk : W p l e R s m args below meth c T'.heap (locs ++ L) (cells + mc) (slots + ms) Qf (F0 m xr.2.2.1 ls [.ref q]) := by
        have hfin : ∀ ls' : Array Slot, W p l e R s m args below meth c T'.heap (locs ++ L) (cells + mc) (slots + ms) Qf (F0 m (xr.2.2.1 + ln) ls' []) := by
          intro ls'
          refine lv_iconst hx hb hx6 rfl ?_
          refine hmq _ _ _ _ _ (es_iret hx hb hH' hS' (by omega) (by omega) hlo (by rw [hret, hirt]; exact Or.inl rfl) hx7 ⟨hQ9 gp, fun _ z => by cases z⟩)
        have hl0 : lv_has ls (e_m i).2.2.1 [] := ⟨hl.1, hl.2.1, fun q hq => nomatch hq⟩
        rcases hx5 with ⟨jj, rfl, hjj, hdd⟩ | ⟨jj, rfl, hjj, hdd⟩
        · exact lv_astore_n hx hb hdd rfl hl0 hjj rfl fun ls' _ => hfin ls'
        · exact lv_astore hx hb hdd hl0 hjj rfl fun ls' _ => hfin ls'
      have hcat := e_catch (p := p) (l := l) (e := e) (below := below) (meth := meth) (R := R) (locs := locs ++ L) (cells := cells + mc) (slots := slots + ms) (Q := Qf) (pc := pc) (ls := ls) (rest := r.map (e_cv w)) ho _ _ _ hsplit (fun zz hzz => by
          have h1 : ∃ y ∈ (e_hh i).take k, (⟨y.1, y.2.1, y.2.2.1, y.2.2.2⟩ : ExceptionTableEntry) = zz := by
            have : zz ∈ ((e_hh i).take k).map (fun q => (⟨q.1, q.2.1, q.2.2.1, q.2.2.2⟩ : ExceptionTableEntry)) := by
              rw [List.map_take]
              exact hzz
            exact List.mem_map.mp this
          obtain ⟨y, hy, rfl⟩ := h1
          obtain ⟨y1, y2, y3⟩ := hx10 y hy
          exact Or.inr ⟨y1, _, hts _ y2, hG.2.2.2.2.2.2 _ y3⟩) (by
          unfold covers
          rw [hpc]
          simp [hx2.1, hx2.2]) hx3 (hts _ hx8) (e_D.use hD _ hx9) (by rw [e1]; exact hce) hcv hclE hkk
      obtain ⟨t2, a1, b1⟩ := hcat T' rfl X'
      exact ⟨t2, st9.trans a1, b1⟩
-- out of the claim's NAMES.whole.lean.txt (a static call of a method with an exception table)
section VXS
variable {p : Program} {l : Launch} {e : Env} {R : Room} {s : State} {m : MethodId} {args : Array Value} {below : List Frame} {meth : Method} {c : Code} {T : State} {H : Heap} {locs : List Loc} {cells slots : Nat}
abbrev vx_CSW (R : Room) (s : State) (args : Array Value) (own : String) (index : Nat) (y : MethodName) (bytes : ByteArray) (maxL : Nat) (ret : Option FieldType) (hh : List (Nat × Nat × Nat × Nat)) (ws : List Cond) (rm : Room) (mc ms n : Nat) : Prop :=
  (rm.cells = mc ∧ rm.slots = ms ∧ rm.frames + 1 ≤ R.frames ∧ 8 + (maxL + 11) + rm.locals ≤ R.locals ∧ (∀ w ∈ ws, ∀ (a' : Array Value) (U : State), s.WarmedH U.vm → w.before a' U = true) ∧ Cond.codeWith y bytes maxL ret hh ∈ ws) ∧
  (Cond.codeWith y bytes maxL ret hh).before args s = true ∧ (Cond.initialized y.cls).before args s = true ∧ (y.cls ≠ "java/lang/invoke/MethodHandle" ∧ y.cls ≠ "java/lang/invoke/VarHandle") ∧
  (∀ sig, parseMethodDescriptor y.desc = some sig → n = sig.parameters.length) ∧ (Cond.methodLink own index y).before args s = true ∧ (Cond.static y).before args s = true
theorem vx_cwSW {own : String} {index maxL mc ms : Nat} {y : MethodName} {bytes : ByteArray} {ret : Option FieldType} {hh : List (Nat × Nat × Nat × Nat)} {Ts ws ws' : List Cond} {rm : Room} (n : Nat) (ht : ∀ w ∈ Ts, w.before args s = true) (hT : GoodIn Ts (va_wsS own index y ws)) (hw : ws = Cond.codeWith y bytes maxL ret hh :: ws') (hrc : rm.cells = mc) (hrs : rm.slots = ms)
    (hd : y.cls ≠ "java/lang/invoke/MethodHandle" ∧ y.cls ≠ "java/lang/invoke/VarHandle" ∧ (parseMethodDescriptor y.desc).map (fun d => d.parameters.length) = some n) (hR : rm.frames + 1 ≤ R.frames ∧ 8 + (maxL + 11) + rm.locals ≤ R.locals) :
    vx_CSW R s args own index y bytes maxL ret hh ws rm mc ms n := by
  have ok : ∀ w ∈ va_wsS own index y ws, w.before args s = true := fun w h => ht w (hT w h).1
  have hG : GoodIn Ts ws := fun w h => hT w (by unfold va_wsS; exact List.mem_append_right _ h)
  have hc : Cond.codeWith y bytes maxL ret hh ∈ ws := by rw [hw]; exact List.mem_cons_self
  refine ⟨⟨hrc, hrs, hR.1, hR.2, pay_in ht hG, hc⟩, ht _ (hG _ hc).1, ok _ (by simp [va_wsS]), ⟨hd.1, hd.2.1⟩, fun sig h => ?_, ok _ (by simp [va_wsS]), ok _ (by simp [va_wsS])⟩
  have h2 := hd.2.2
  rw [h] at h2
  exact (Option.some.inj h2).symm
theorem vx_callSW (X : Stand p l e R s m args below meth c T locs cells slots) (hexec : p.tables.exec = Jvm.exec) {own : String} {index : Nat} {y : MethodName} {bytes : ByteArray} {maxL : Nat} {ret : Option FieldType} {hh : List (Nat × Nat × Nat × Nat)}
    (hown : s.vm.findClass own = some m.cls) (hlink : (Cond.methodLink own index y).before args s = true) (hstat : (Cond.static y).before args s = true) (hinit : (Cond.initialized y.cls).before args s = true)
    (hcode : (Cond.codeWith y bytes maxL ret hh).before args s = true) (hy : y.cls ≠ "java/lang/invoke/MethodHandle" ∧ y.cls ≠ "java/lang/invoke/VarHandle")
    {W9 : Nat} {Pre : Pt → Array Value → Prop} {Post : Pt → Array Value → Option Value → Pt → Prop} (hK : Back l R p e below s args y 3 W9 Pre Post)
    {g : JFrame} (hg : g.method = m) (hsize : g.locals.size = c.maxLocals) {argsL rest : List Value} (hlen : ∀ sig, parseMethodDescriptor y.desc = some sig → argsL.length = sig.parameters.length)
    (hstack : g.stack = argsL.reverse ++ rest) (hW : 2 * g.monitorRoom + (rest.map fun v => v.category).sum ≤ W9) (hdg : decode c.code g.pc = .ok (.invokestatic index, 3))
    (hpre : ∀ vm₁, s.WarmedH vm₁ → Pre ⟨T.setVm vm₁, locs, cells, slots⟩ argsL.toArray) :
    ∃ (v : Option Value) (vm₁ : Vm) (B : Pt), s.WarmedH vm₁ ∧ Stand p l e R s m args below meth c B.U B.locs B.cells B.slots ∧ Post ⟨T.setVm vm₁, locs, cells, slots⟩ argsL.toArray v B ∧
      ∀ target, Steps p.tables e below (B.U.setTop { g with pc := g.pc + 3, stack := v.toList ++ rest }) target → Steps p.tables e below (T.setTop g) target := by
  obtain ⟨mk, methM, cM, hnamed, hmethM, -, -, -, -, -, -, hsigM⟩ := Cond.codeWith_spec hcode
  have hstatic : methM.isStatic = true := Cond.static_spec hnamed hmethM hstat
  obtain ⟨kP, hkP, -⟩ := className_of_methodNamed hnamed
  have hinitP : kP.init = .initialized := Cond.initialized_spec (findClass_of_methodNamed hnamed) hkP hinit
  obtain ⟨vm₁, X₁, hstep₁⟩ := X.invokestatic hexec hown hlink hnamed hmethM hstatic hkP hinitP hy (g := g) hg (argsL := argsL) (rest := rest) (hlen _ hsigM) hstack hdg
  obtain ⟨v, B, X', hpost, hsteps⟩ := hK m meth c ⟨T.setVm vm₁, locs, cells, slots⟩ { g with stack := rest } (.invokestatic index) mk argsL.toArray X₁ hg hsize hdg hW (X₁.named hnamed) (hpre vm₁ X₁.warmed)
  exact ⟨v, vm₁, B, X₁.warmed, X', hpost, fun target h => hstep₁ _ fun acts => by rw [doInvoke_state]; exact hsteps.trans h⟩
theorem vx_runSW {y : MethodName} {bytes cc : ByteArray} {maxL nL mc ms n index : Nat} {ret : Option FieldType} {hh : List (Nat × Nat × Nat × Nat)} {ws : List Cond} {rm : Room} {Pc : Array Value → State → Prop} {Qc : Array Value → State → Outcome → State → Prop} {free : Addr → Prop} {Ts : List Cond} {own : String} {As rest : List Value} {g : JFrame}
    (S : CallFix p m c cc nL s args Ts own) (hM : Met l y ws rm Pc Qc mc ms free) (cw : vx_CSW R s args own index y bytes maxL ret hh ws rm mc ms n) (hp : PreS s H Pc As)
    (hg : g.method = m) (hn : As.length = n) (hsize : g.locals.size = nL) (hstack : g.stack = As.reverse ++ rest) (hW : 2 * g.monitorRoom + (rest.map fun v => v.category).sum ≤ 8) (hdg : decode cc g.pc = .ok (.invokestatic index, 3)) (hf : cells + mc ≤ R.cells ∧ slots + ms ≤ R.slots) :
    va_Run p l e R s m args below meth c H locs cells slots mc ms g rest (Qc As.toArray) (free) := by
  obtain ⟨⟨hrc, hrs, hfr, hlo, hws, hcw⟩, hcode, hini, hy, hlen, hl, hstt⟩ := cw
  have hK : Back l R p e below s args y 3 8 (PreOf R mc ms Pc) (PostOf Qc mc ms free) := va_backW (hh := hh) (bytes := bytes) (maxL := maxL) (ret := ret) hM hp.1 hrc hrs hfr hlo hws hcw (fun a' U hW => word_at hW (Or.inl (by first | rfl | simp [Cond.onTables, Cond.keeps, Cond.steady])) hini)
  obtain ⟨hx, hb, hml, ho, -⟩ := S
  intro T hT X
  obtain ⟨v, vm₁, ⟨U', l2, c2, s2⟩, hW₁, X', ⟨g', mk, t, L, e1, e2, hq, h1, hL, h2, h3⟩, st⟩ := vx_callSW X hx (hh := hh) (bytes := bytes) (maxL := maxL) (ret := ret) ho hl hstt hini hcode hy hK hg (hsize.trans hml.symm) (argsL := As) (rest := rest) (fun sig h => hn.trans (hlen sig h)) hstack hW (by rw [hb]; exact hdg)
    (fun vm₁ hW₁ => ⟨hf.1, hf.2, hp.2 (T.setVm vm₁) hT hW₁⟩)
  dsimp only [Pt.U, Pt.locs, Pt.cells, Pt.slots] at X' e1 e2 h1 h2 h3 st
  subst h1; subst h2; subst h3
  exact ⟨v, (T.setVm vm₁).calling g' mk As.toArray, t, U', L, hT, X', hL, e1, e2, hq, st⟩
end VXS
/-! ===== the law's five as callees ===== -/
def e_wsH (i : Nat) : List Cond := Cond.codeWith (e_m i).1 (e_m i).2.1 (e_m i).2.2.1 (e_m i).2.2.2.1 (e_hh i) :: e_big
def e_hok5 : Bool := [79, 80, 81, 82, 83].all (fun i => e_big.contains (Cond.codeWith (e_m i).1 (e_m i).2.1 (e_m i).2.2.1 (e_m i).2.2.2.1 (e_hh i)) && (e_big.contains (Cond.static (e_m i).1) && (decide ((e_m i).1.cls = "TierMillLaw") && (decide ((parseMethodDescriptor (e_m i).1.desc).map (fun d => d.parameters.length) = some (i - 77 - (if 81 ≤ i then 1 else 0))) && (decide ((e_m i).2.2.1 ≤ 8) && decide ((e_m i).2.2.2.1 = some .int))))))
theorem e_hok5_t : e_hok5 = true := by decide +kernel
theorem e_law_init : e_big.contains (Cond.initialized "TierMillLaw") = true := by decide +kernel
theorem e_hok5_f {i : Nat} (hi : 79 ≤ i ∧ i ≤ 83) : Cond.codeWith (e_m i).1 (e_m i).2.1 (e_m i).2.2.1 (e_m i).2.2.2.1 (e_hh i) ∈ e_big ∧ Cond.static (e_m i).1 ∈ e_big ∧ (e_m i).1.cls = "TierMillLaw" ∧ (parseMethodDescriptor (e_m i).1.desc).map (fun d => d.parameters.length) = some (i - 77 - (if 81 ≤ i then 1 else 0)) ∧ (e_m i).2.2.1 ≤ 8 ∧ (e_m i).2.2.2.1 = some .int := by
  have h := e_hok5_t
  unfold e_hok5 at h
  rw [List.all_eq_true] at h
  have hm : i ∈ [79, 80, 81, 82, 83] := by
    have : i = 79 ∨ i = 80 ∨ i = 81 ∨ i = 82 ∨ i = 83 := by omega
    simpa using this
  have h := h i hm
  simpa only [Bool.and_eq_true, List.contains_iff_mem, decide_eq_true_eq] using h
theorem e_helpMet (hOk : ∀ i, i < 79 → e_Ok i) (hOkM : ∀ j, j < 79 → e_OkM j) (l : Launch) (hst : l.stackTraces = false) (w : eW) {i d mc ms : Nat} (hL : e_OkL i) {av : List Value} {M : eM} {Q : eQ} (hi : 79 ≤ i ∧ i ≤ 83) (hlen : (lg_sl av).length ≤ (e_m i).2.2.1)
    (hF : ∀ am, e_tab am i → e_F am i d mc ms 0 (lv_args 0 av) [] M Q) : Met l (e_m i).1 (e_wsH i) (e_rm d mc ms) (e_PcD w av M) (e_Qc w Q) mc ms (e_A w) := by
  obtain ⟨w1, w2, w3, -, -, -⟩ := e_hok5_f hi
  refine va_MetW (cc := (e_m i).2.1) (maxL := (e_m i).2.2.1) (ret := (e_m i).2.2.2.1) (hh := e_hh i) (by rw [w3]; decide +kernel) rfl ?_
  intro p2 e2 s2 m2 args2 below2 meth2 c2 s₁ B hml2 hv
  obtain ⟨rfl, hG2, hD2, hH2⟩ := hv
  have hts2 := atoms_spec (ws := e_wsH i) B.pre
  have hl2 := lv_entry (av.map (e_cv w)) (n := (e_m i).2.2.1) (by rw [e_sl_len]; exact hlen)
  rw [lg_entry_eq]
  generalize (lg_sl (av.map (e_cv w)) ++ List.replicate ((e_m i).2.2.1 - (lg_sl (av.map (e_cv w))).length) Slot.unset).toArray = ls2 at hl2 ⊢
  have hown := findClass_of_methodNamed B.named
  rw [w3] at hown
  have htab : c2.exceptionTable.toList = tableOf (e_hh i) := vx_table (x := (e_m i).1) B (hts2 _ List.mem_cons_self)
  refine hF (p2, l, e2, _, s2, m2, _, below2, meth2, c2, _, w) htab ⟨hOk, hOkM, hL, ⟨B.exec, B.bytes, hml2, hown, fun v hv => hts2 v (List.mem_cons_of_mem _ hv)⟩, ⟨(name_of_methodNamed B.named B.method).1, B.notSynchronized, B.returns⟩, ⟨hG2, hD2, hst⟩, ⟨Nat.le_refl _, Nat.le_refl _⟩, fun _ _ _ _ _ z => e_nr_W z⟩ s2.heap [] 0 0 ls2 hH2 va_S.rf (by show 0 + mc ≤ mc; omega) (by show 0 + ms ≤ ms; omega) (by rw [e_args_map]; exact hl2)
/-- the law's calls of its five stand in the tables -/
def e_hlk : Bool := (e_m 84).2.2.2.2.all (fun q => e_nh q || (match q.2.1 with | .invokestatic x => e_big.contains (Cond.methodLink "TierMillLaw" x (e_m q.2.2.2.1).1) && (decide (q.2.2.1 = 3) && decide (decode (e_m 84).2.1 q.1 = .ok (.invokestatic x, 3))) | _ => false))
theorem e_hlk_t : e_hlk = true := by decide +kernel
theorem f_help {am : eAm} {d d' mc ms kc ks pc x i b na : Nat} {z : Int} {lv : eL} {st : List Value} {M : eM} {Q : eQ} (hL : e_OkL i) (hd : d = d' + 1) (hq : e_dec 84 pc = some (.invokestatic x, 3, i, b, z)) (hi : 79 ≤ i ∧ i ≤ 83) (hna : i - 77 - (if 81 ≤ i then 1 else 0) = na) (hle : na ≤ st.length) (hlen : (lg_sl (st.take na).reverse).length ≤ (e_m i).2.2.1) (h8 : ((st.drop na).map fun v => v.category).sum ≤ 8) (g1 : mc ≤ kc) (g2 : ms ≤ ks)
    (hF : ∀ am', e_tab am' i → e_F am' i d' mc ms 0 (lv_args 0 (st.take na).reverse) [] M (fun v M' => e_F am 84 d (kc - mc) (ks - ms) (pc + 3) lv (v.toList ++ st.drop na) M' Q)) : e_F am 84 d kc ks pc lv st M Q := by
  intro A
  have A0 := A
  obtain ⟨p, l, e, R, s, m, args, below, meth, c, Qf, w⟩ := am
  obtain ⟨hOk, hOkM, -, ⟨hx, hb, hml, ho, hts⟩, ⟨hnm, hlo, hret⟩, ⟨hG, hD, hst⟩, ⟨hf, hlc⟩, hmq⟩ := A
  intro H locs cells slots ls hH hS hc hs hl
  have h1 := List.all_eq_true.mp e_hlk_t _ (e_dec_mem (i := 84) hq)
  have hnh : e_nh (pc, (.invokestatic x, 3, i, b, z)) = false := by
    show (!(decide (79 ≤ i ∧ i ≤ 83))) = false
    rw [decide_eq_true hi]
    rfl
  rw [hnh] at h1
  simp only [Bool.false_or, Bool.and_eq_true, decide_eq_true_eq, List.contains_iff_mem] at h1
  obtain ⟨k1, -, hdg⟩ := h1
  obtain ⟨w1, w2, w3, w4, w5, -⟩ := e_hok5_f hi
  have hini : Cond.initialized "TierMillLaw" ∈ e_big := List.contains_iff_mem.mp e_law_init
  subst hd
  have hMet := e_helpMet hOk hOkM l hst w hL hi hlen hF
  have hgd : GoodIn e_big (va_wsS "TierMillLaw" x (e_m i).1 (e_wsH i)) := e_goodIn fun v hv => by
    unfold va_wsS at hv
    rcases List.mem_append.mp hv with hv | hv
    · simp only [List.mem_cons, List.not_mem_nil, or_false] at hv
      rcases hv with rfl | rfl | rfl
      · exact k1
      · exact w2
      · rw [w3]; exact hini
    · rcases List.mem_cons.mp hv with rfl | hv
      · exact w1
      · exact hv
  have hcw := vx_cwSW (R := R) (own := "TierMillLaw") (index := x) (y := (e_m i).1) (bytes := (e_m i).2.1) (maxL := (e_m i).2.2.1) (ret := (e_m i).2.2.2.1) (hh := e_hh i) (Ts := e_big) (ws := e_wsH i) (ws' := e_big) (rm := e_rm d' mc ms) (mc := mc) (ms := ms) na hts hgd rfl rfl rfl ⟨by rw [w3]; decide, by rw [w3]; decide, by rw [w4, hna]⟩ ⟨by show d' + 1 + 1 ≤ R.frames; omega, by show 8 + ((e_m i).2.2.1 + 11) + 64 * (d' + 1) ≤ R.locals; omega⟩
  have hr := vx_runSW (e := e) (below := below) (meth := meth) (cells := cells) (slots := slots) (locs := locs) (g := F0 m pc ls (st.map (e_cv w))) (rest := (st.drop na).map (e_cv w)) (As := (st.take na).reverse.map (e_cv w)) (H := H) ⟨hx, hb, hml, ho, hts⟩ hMet hcw ⟨e_PcD_blind _ _ _, fun U hU hW => ⟨rfl, hG.warm hW, hD.warm hW, by rw [hU]; exact hH.moved hW.alike⟩⟩ rfl (by simp; omega) hl.1 (by
    show st.map (e_cv w) = _
    rw [← List.map_reverse, List.reverse_reverse, ← List.map_append, List.take_append_drop]) (lv_room (by rw [e_sum]; exact h8)) hdg ⟨by omega, by omega⟩
  have hgo : e_Go p l e R s m args below meth c Qf w (e_m 84).2.2.1 (fun kc' ks' pc' lv' st' M' => e_F (p, l, e, R, s, m, args, below, meth, c, Qf, w) 84 (d' + 1) kc' ks' pc' lv' st' M' Q) := fun kc ks pc lv st M h => h A0
  exact e_after hgo hS hc hs hl g1 g2 hr
