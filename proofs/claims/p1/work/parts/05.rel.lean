/-! ===== what the numbered cells are on the machine's heap ===== -/
/-- classes' and slots' numbers; the array classes by kind; the addresses of the old arrays; where the new cells begin -/
abbrev eW : Type := va_G × (Nat → ClassId) × (Nat → Nat) × Nat
def e_ad (w : eW) (k : Nat) : Nat := if k < e_c0 then w.2.2.1 k else w.2.2.2 + (k - e_c0)
def e_rv (w : eW) (r : Nat) : Value := if r = 0 then .null else .ref (e_ad w r)
def e_cv (w : eW) (v : Value) : Value := match v with
  | .ref r => e_rv w r
  | v => v
def e_cq (w : eW) (q : Nat × Value) : Nat × Value := (q.1, e_cv w q.2)
def e_ro (w : eW) (r : Nat) : Option Nat := if r = 0 then none else some (e_ad w r)
theorem e_ro_rf (w : eW) (r : Nat) : va_rf (e_ro w r) = e_rv w r := by unfold e_ro e_rv; split <;> rfl
def e_fs (w : eW) (M : eM) (a : Nat) (ks : List Nat) : List Value := (List.range ks.length).map (fun j => e_cv w (e_gv M a j (ks.getD j 0)))
def e_cell (w : eW) (M : eM) (a : Nat) : va_E :=
  if (M.2.1 a).1 < 20 then .inr ((M.2.1 a).1, e_fs w M a (e_fk (M.2.1 a).1))
  else if (M.2.1 a).1 = 21 then .inl (w.2.1 21, (M.2.1 a).2, .inr (.inl (M.2.2.2.1 a)))
  else if (M.2.1 a).1 < 23 then .inl (w.2.1 (M.2.1 a).1, (M.2.1 a).2, .inl (M.2.2.1 a))
  else .inl (w.2.1 (M.2.1 a).1, (M.2.1 a).2, .inr (.inr (.inr (.inr (fun j => e_ro w (M.2.2.2.2 a j))))))
def e_tys (w : eW) : List (ClassId × FieldType) := [(w.2.1 20, .int), (w.2.1 21, .long), (w.2.1 22, .boolean), (w.2.1 23, .object "TierMill$Plan"), (w.2.1 24, .object "TierMill$Shape")]
/-- an old int array -/
def e_X (b N : Nat) (f : Nat → Int32) (U : State) (H : Heap) : Prop := ∃ cell : Cell, H[b]? = some cell ∧ U.isArrayOf cell .int ∧ cell.vm ≠ .unknown ∧ N ≤ cell.slots.size ∧ cell.slots.size.toInt32 = Int32.ofNat N ∧ ∀ j : Nat, j < N → cell.slots[j]? = some (.int (f j))
def e_sts : List (String × String × String × Nat) := [("TierMill", "SIZES", "[I", 2), ("TierMill", "TAKES", "[I", 3), ("TierMill", "PUTS", "[I", 4)]
def e_nsF : List (String × Nat × String × Nat) := [("TierMill$Decoder", 83, "SIZES", 2), ("TierMill$Verifier", 146, "TAKES", 3), ("TierMill$Verifier", 157, "PUTS", 4)]
def e_nsM : List (String × Nat × MethodName) := []
/-- the texts of the exceptions; which exception isn't which -/
def e_strs : List (Nat × String) := [(92, "the FILE has a FAULT"), (182, "n is not 1 .. 2000"), (189, "no RUN is under way"), (198, "60000 STEPS have been done"), (228, "no such number was put out or kept"), (250, "no such LOCAL, or its KIND is NO"), (263, "no such LOCAL, its KIND is NO, or it is an INT"), (265, "it is null"), (280, "no such what")]
def e_ncs : List (String × String) := [("java/lang/IllegalStateException", "java/lang/IllegalArgumentException"), ("java/lang/ArithmeticException", "java/lang/IllegalArgumentException"), ("java/lang/ArithmeticException", "java/lang/IllegalStateException")]
/-- where new cells are -/
def e_A (w : eW) : Nat → Prop := fun x => w.2.2.2 ≤ x
/-- what the tables say -/
def e_G (w : eW) (U : State) : Prop := va_K w.1 e_cl (e_tys w) U ∧ (∀ q ∈ e_nsF, va_Nw (.fieldLinkNest q.1 q.2.1 "TierMill" q.2.2.1 "[I" "TierMill") U) ∧ (∀ q ∈ e_nsM, va_Nw (.methodLinkNest q.1 q.2.1 q.2.2 "TierMill") U) ∧ va_AO "TierMill$Plan" U ∧ va_AO "TierMill$Shape" U ∧ (∀ q ∈ e_strs, ∃ sa, vk_R "TierMill" q.1 q.2 sa U) ∧ ∀ q ∈ e_ncs, va_Nc q.1 q.2 U
/-- what the heap holds -/
def e_H (w : eW) (M : eM) (U : State) (H : Heap) : Prop :=
  e_c0 ≤ M.1 ∧ H.size = w.2.2.2 + (M.1 - e_c0) ∧ (∀ k, e_c0 ≤ k → k < M.1 → (M.2.1 k).1 < 50 → va_at w.1 e_cl (e_ad w k, e_cell w M k) H) ∧
  (∀ k, 0 < k → k < e_c0 → (M.2.1 k).1 = 20 → w.2.2.1 k < w.2.2.2 ∧ e_X (w.2.2.1 k) (M.2.1 k).2 (M.2.2.1 k) U H) ∧
  (∀ q ∈ e_sts, va_Z q.1 q.2.1 q.2.2.1 (.ref (w.2.2.1 q.2.2.2)) (e_A w) U H) ∧ vx_Zq Bundle.tN "UNASSIGNED_STACK" Bundle.steD (e_A w) U H ∧ vx_Zq Bundle.tN "SUPPRESSED_SENTINEL" Bundle.listD (e_A w) U H
theorem e_cv_cat (w : eW) (v : Value) : (e_cv w v).category = v.category := by
  cases v with
  | ref r => show (e_rv w r).category = 1; unfold e_rv; split <;> rfl
  | _ => rfl
theorem e_sum (w : eW) (st : List Value) : ((st.map (e_cv w)).map fun v => v.category).sum = (st.map fun v => v.category).sum := by
  rw [List.map_map]
  congr 1
  exact List.map_congr_left fun v _ => e_cv_cat w v
theorem e_s1_map (w : eW) (lv : eL) (j : Nat) (v : Value) : (j, e_cv w v) :: (lv.map (e_cq w)).filter (fun q => !(q.1 == j) && !(q.1 + 1 == j && q.2.category == 2)) = (e_s1 lv j v).map (e_cq w) := by
  unfold e_s1
  rw [List.map_cons, List.filter_map]
  congr 2
  apply List.filter_congr
  intro q _
  simp [e_cq, e_cv_cat]
theorem e_s2_map (w : eW) (lv : eL) (j : Nat) (v : Value) : (j, e_cv w v) :: (lv.map (e_cq w)).filter (fun q => !(q.1 == j) && (!(q.1 == j + 1) && !(q.1 + 1 == j && q.2.category == 2))) = (e_s2 lv j v).map (e_cq w) := by
  unfold e_s2
  rw [List.map_cons, List.filter_map]
  congr 2
  apply List.filter_congr
  intro q _
  simp [e_cq, e_cv_cat]
theorem e_lu : ∀ {lv : eL} {j : Nat} {v : Value}, lv.lookup j = some v → (j, v) ∈ lv
  | [], j, v, h => by simp at h
  | (i, u) :: lv, j, v, h => by
    rw [List.lookup_cons] at h
    split at h
    · rename_i hb
      have := eq_of_beq hb
      subst this
      cases h
      exact List.mem_cons_self
    · exact List.mem_cons_of_mem _ (e_lu h)
theorem e_lv_at {w : eW} {lv : eL} {ls : Array Slot} {n j : Nat} {v : Value} (hl : lv_has ls n (lv.map (e_cq w))) (h : lv.lookup j = some v) : ls[j]? = some (.val (e_cv w v)) :=
  hl.2.2 (j, e_cv w v) (List.mem_map.mpr ⟨(j, v), e_lu h, rfl⟩)
theorem e_u_ne {α : Type} {f : Nat → Nat → α} {a j : Nat} {x : α} {b : Nat} (h : b ≠ a) : e_u f a j x b = f b := by
  funext k
  simp [e_u, h]
theorem e_u_i {f : Nat → Nat → Int32} {a j : Nat} {x : Int32} : e_u f a j x a = upd (f a) j x := by
  funext k
  simp [e_u, upd]
theorem e_u_l {f : Nat → Nat → Int64} {a j : Nat} {x : Int64} : e_u f a j x a = vp_updL (f a) j x := by
  funext k
  simp [e_u, vp_updL]
theorem e_u_r {f : Nat → Nat → Nat} {a j : Nat} {x : Nat} : e_u f a j x a = va_up (f a) j x := by
  funext k
  simp [e_u, va_up]
theorem e_cell_si {w : eW} {M : eM} {a j k : Nat} {x : Int32} (h : k ≠ a) : e_cell w (e_si M a j x) k = e_cell w M k := by
  simp only [e_cell, e_si, e_fs, e_gv, e_u_ne h]
theorem e_cell_sl {w : eW} {M : eM} {a j k : Nat} {x : Int64} (h : k ≠ a) : e_cell w (e_sl M a j x) k = e_cell w M k := by
  simp only [e_cell, e_sl, e_fs, e_gv, e_u_ne h]
  rfl
theorem e_cell_sr {w : eW} {M : eM} {a j k : Nat} {x : Nat} (h : k ≠ a) : e_cell w (e_sr M a j x) k = e_cell w M k := by
  simp only [e_cell, e_sr, e_fs, e_gv, e_u_ne h]
theorem e_cell_new {w : eW} {M : eM} {t n k : Nat} (h : k < M.1) : e_cell w (e_new M t n) k = e_cell w M k := by
  have h1 : k ≠ M.1 := Nat.ne_of_lt h
  simp only [e_cell, e_new, e_fs, e_gv, va_up_ne _ _ h1]
theorem e_ad_ge {w : eW} {k : Nat} (h : e_c0 ≤ k) : e_ad w k = w.2.2.2 + (k - e_c0) := if_neg (Nat.not_lt.mpr h)
theorem e_ad_A {w : eW} {k : Nat} (h : e_c0 ≤ k) : e_A w (e_ad w k) := by
  rw [e_ad_ge h]
  exact Nat.le_add_right _ _
theorem e_ad_ne {w : eW} {k a : Nat} (hk : e_c0 ≤ k) (ha : e_c0 ≤ a) (h : k ≠ a) : e_ad w k ≠ e_ad w a := by
  rw [e_ad_ge hk, e_ad_ge ha]
  omega
theorem e_X.kept {b N : Nat} {f : Nat → Int32} {U : State} {H H1 : Heap} (h : e_X b N f U H) (hq : H1[b]? = H[b]?) : e_X b N f U H1 := by
  obtain ⟨cell, h1, h2⟩ := h
  exact ⟨cell, by rw [hq]; exact h1, h2⟩
theorem e_X.moved {b N : Nat} {f : Nat → Int32} {u U : State} {H : Heap} (hvm : u.vm.Alike U.vm) (h : e_X b N f u H) : e_X b N f U H := by
  obtain ⟨cell, h1, h2, h3⟩ := h
  exact ⟨cell, h1, State.isArrayOf_alike hvm h2, h3⟩
theorem e_H.moved {w : eW} {M : eM} {u U : State} {H : Heap} (hvm : u.vm.Alike U.vm) (h : e_H w M u H) : e_H w M U H :=
  ⟨h.1, h.2.1, h.2.2.1, fun k h0 h1 h2 => ⟨(h.2.2.2.1 k h0 h1 h2).1, (h.2.2.2.1 k h0 h1 h2).2.moved hvm⟩, fun q hq => (h.2.2.2.2.1 q hq).moved hvm, h.2.2.2.2.2.1.moved hvm, h.2.2.2.2.2.2.moved hvm⟩
theorem e_G.warm {w : eW} {s U : State} (hW : s.WarmedH U.vm) (h : e_G w s) : e_G w U :=
  ⟨va_K.moved hW.alike h.1, fun q hq => va_Nw.warmF hW (h.2.1 q hq), fun q hq => va_Nw.warmM hW (h.2.2.1 q hq), va_AO.moved hW.alike h.2.2.2.1, va_AO.moved hW.alike h.2.2.2.2.1, fun q hq => (h.2.2.2.2.2.1 q hq).imp (fun _ z => z.warm hW), fun q hq => (h.2.2.2.2.2.2 q hq).moved hW.alike⟩
theorem e_G.same {w : eW} {s U : State} (hvm : s.vm = U.vm) (h : e_G w s) : e_G w U :=
  ⟨va_K.moved (by rw [hvm]; exact Vm.Alike.refl _) h.1, fun q hq => va_Nw.same rfl hvm (h.2.1 q hq), fun q hq => va_Nw.same rfl hvm (h.2.2.1 q hq), va_AO.moved (by rw [hvm]; exact Vm.Alike.refl _) h.2.2.2.1, va_AO.moved (by rw [hvm]; exact Vm.Alike.refl _) h.2.2.2.2.1, fun q hq => (h.2.2.2.2.2.1 q hq).imp (fun _ z => z.same hvm.symm), fun q hq => (h.2.2.2.2.2.2 q hq).moved (by rw [hvm]; exact Vm.Alike.refl _)⟩
theorem e_H.put {w : eW} {M M' : eM} {U : State} {H H1 : Heap} {a : Nat} (h : e_H w M U H) (ha : e_c0 ≤ a) (h1 : M'.1 = M.1) (h2 : M'.2.1 = M.2.1) (ho : ∀ k, k ≠ a → M'.2.2.1 k = M.2.2.1 k) (hc : ∀ k, k ≠ a → e_cell w M' k = e_cell w M k) (hat : va_at w.1 e_cl (e_ad w a, e_cell w M' a) H1) (z : H1.size = H.size) (oq : ∀ q, q ≠ e_ad w a → H1[q]? = H[q]?) : e_H w M' U H1 := by
  obtain ⟨g1, g2, g3, g4, g5, g6, g7⟩ := h
  have hA := e_ad_A (w := w) ha
  have hkp : ∀ x : Nat, x < H.size → ¬ e_A w x → H1[x]? = H[x]? := fun x _ hx => oq x fun e => hx (by rw [e]; exact hA)
  refine ⟨by rw [h1]; exact g1, by rw [z, h1]; exact g2, fun k k0 k1 k2 => ?_, fun k k0 k1 k2 => ?_, fun q hq => ?_, g6.kept hkp, g7.kept hkp⟩
  · by_cases hk : k = a
    · subst hk; exact hat
    · rw [hc k hk]
      rw [h1] at k1; rw [h2] at k2
      exact (g3 k k0 k1 k2).kept (oq _ (e_ad_ne k0 ha hk))
  · rw [h2] at k2
    obtain ⟨q1, q2⟩ := g4 k k0 k1 k2
    have hka : k ≠ a := by omega
    rw [h2, ho k hka]
    refine ⟨q1, q2.kept (oq _ fun e => ?_)⟩
    rw [e] at q1
    exact absurd hA (Nat.not_le.mpr q1)
  · exact (g5 q hq).kept (fun x _ hx => oq x fun e => hx (by rw [e]; exact hA))
theorem e_H.new {w : eW} {M : eM} {U : State} {H H1 : Heap} {t n : Nat} (h : e_H w M U H) (hat : va_at w.1 e_cl (e_ad w M.1, e_cell w (e_new M t n) M.1) H1) (z : H1.size = H.size + 1) (oq : ∀ q, q < H.size → H1[q]? = H[q]?) : e_H w (e_new M t n) U H1 := by
  obtain ⟨g1, g2, g3, g4, g5, g6, g7⟩ := h
  refine ⟨Nat.le_succ_of_le g1, by rw [z, g2]; show _ = w.2.2.2 + (M.1 + 1 - e_c0); omega, fun k k0 k1 k2 => ?_, fun k k0 k1 k2 => ?_, fun q hq => ?_, g6.kept (fun x hx _ => oq x hx), g7.kept (fun x hx _ => oq x hx)⟩
  · rcases Nat.lt_or_eq_of_le (Nat.le_of_lt_succ k1) with hk | hk
    · rw [e_cell_new hk]
      have k2' : (M.2.1 k).1 < 50 := by
        have := k2
        simp only [e_new, va_up_ne _ _ (Nat.ne_of_lt hk)] at this
        exact this
      exact (g3 k k0 hk k2').kept (oq _ ((g3 k k0 hk k2').lt))
    · subst hk; exact hat
  · have hne : k ≠ M.1 := by omega
    simp only [e_new, va_up_ne _ _ hne] at k2 ⊢
    obtain ⟨q1, q2⟩ := g4 k k0 k1 k2
    exact ⟨q1, q2.kept (oq _ (by rw [g2]; omega))⟩
  · exact (g5 q hq).kept (fun x hx _ => oq x hx)
/-- cells came that nobody looks into -/
def e_gap (M : eM) (g : Nat) : eM := (M.1 + g, (fun k => if k < M.1 then M.2.1 k else (99, 0)), M.2.2.1, M.2.2.2.1, M.2.2.2.2)
theorem e_H.gap {w : eW} {M : eM} {U : State} {H H1 : Heap} (h : e_H w M U H) (z : H.size ≤ H1.size) (oq : ∀ q, q < H.size → H1[q]? = H[q]?) : e_H w (e_gap M (H1.size - H.size)) U H1 := by
  obtain ⟨g1, g2, g3, g4, g5, g6, g7⟩ := h
  refine ⟨Nat.le_trans g1 (Nat.le_add_right _ _), by show H1.size = w.2.2.2 + (M.1 + (H1.size - H.size) - e_c0); omega, fun k k0 k1 k2 => ?_, fun k k0 k1 k2 => ?_, fun q hq => ?_, g6.kept (fun x hx _ => oq x hx), g7.kept (fun x hx _ => oq x hx)⟩
  · by_cases hk : k < M.1
    · have e1 : (e_gap M (H1.size - H.size)).2.1 k = M.2.1 k := if_pos hk
      have e2 : e_cell w (e_gap M (H1.size - H.size)) k = e_cell w M k := by
        unfold e_cell e_fs e_gv
        rw [e1]
        rfl
      rw [e1] at k2
      rw [e2]
      exact (g3 k k0 hk k2).kept (oq _ ((g3 k k0 hk k2).lt))
    · have e1 : (e_gap M (H1.size - H.size)).2.1 k = (99, 0) := if_neg hk
      rw [e1] at k2
      exact absurd k2 (by decide)
  · have hk : k < M.1 := Nat.lt_of_lt_of_le k1 g1
    have e1 : (e_gap M (H1.size - H.size)).2.1 k = M.2.1 k := if_pos hk
    rw [e1] at k2 ⊢
    obtain ⟨q1, q2⟩ := g4 k k0 k1 k2
    exact ⟨q1, q2.kept (oq _ (by rw [g2]; omega))⟩
  · exact (g5 q hq).kept (fun x hx _ => oq x hx)
theorem e_H.lt {w : eW} {M : eM} {U : State} {H : Heap} (h : e_H w M U H) : H.size = e_ad w M.1 := by rw [e_ad_ge h.1]; exact h.2.1
theorem e_P1 {D : va_G} {cl : List vw_C} {q : Nat × va_E} {H : Heap} (h : va_at D cl q H) : va_P D cl [q] H := by
  intro k x hx
  cases k with
  | zero => cases hx; exact h
  | succ k => simp at hx
theorem e_cell_ob {w : eW} {M : eM} {o ci : Nat} (h : (M.2.1 o).1 = ci) (hc : ci < 20) : e_cell w M o = .inr (ci, e_fs w M o (e_fk ci)) := by
  unfold e_cell
  rw [h, if_pos hc]
theorem e_fs_get (w : eW) (M : eM) (a : Nat) {ks : List Nat} {j : Nat} (h : j < ks.length) : (e_fs w M a ks)[j]? = some (e_cv w (e_gv M a j (ks.getD j 0))) := by
  simp [e_fs, h]
theorem e_fs_len (w : eW) (M : eM) (a : Nat) (ks : List Nat) : (e_fs w M a ks).length = ks.length := by simp [e_fs]
theorem e_fs_si (w : eW) (M : eM) (a : Nat) {ks : List Nat} {j : Nat} (x : Int32) (h1 : ks.getD j 0 ≠ 1) (h2 : ks.getD j 0 ≠ 2) : e_fs w (e_si M a j x) a ks = (e_fs w M a ks).set j (.int x) := by
  apply List.ext_getElem?
  intro i
  rw [List.getElem?_set]
  by_cases hi : i < ks.length
  · rw [e_fs_get w _ a hi, e_fs_get w _ a hi]
    by_cases hij : j = i
    · subst hij
      rw [if_pos rfl, if_pos (by rw [e_fs_len]; exact hi)]
      unfold e_gv
      rw [if_neg h1, if_neg h2]
      simp [e_si, e_u, e_cv]
    · rw [if_neg hij]
      have : i ≠ j := fun e => hij e.symm
      simp [e_gv, e_si, e_u, this]
  · have h3 : (e_fs w (e_si M a j x) a ks)[i]? = none := by rw [List.getElem?_eq_none_iff, e_fs_len]; omega
    have h4 : (e_fs w M a ks)[i]? = none := by rw [List.getElem?_eq_none_iff, e_fs_len]; omega
    rw [h3, h4]
    by_cases hij : j = i
    · rw [if_pos hij, if_neg (by rw [e_fs_len]; omega)]
    · rw [if_neg hij]
theorem e_fs_sl (w : eW) (M : eM) (a : Nat) {ks : List Nat} {j : Nat} (x : Int64) (h1 : ks.getD j 0 = 1) : e_fs w (e_sl M a j x) a ks = (e_fs w M a ks).set j (.long x) := by
  apply List.ext_getElem?
  intro i
  rw [List.getElem?_set]
  by_cases hi : i < ks.length
  · rw [e_fs_get w _ a hi, e_fs_get w _ a hi]
    by_cases hij : j = i
    · subst hij
      rw [if_pos rfl, if_pos (by rw [e_fs_len]; exact hi)]
      unfold e_gv
      rw [if_pos h1]
      simp [e_sl, e_u, e_cv]
    · rw [if_neg hij]
      have : i ≠ j := fun e => hij e.symm
      simp [e_gv, e_sl, e_u, this]
  · have h3 : (e_fs w (e_sl M a j x) a ks)[i]? = none := by rw [List.getElem?_eq_none_iff, e_fs_len]; omega
    have h4 : (e_fs w M a ks)[i]? = none := by rw [List.getElem?_eq_none_iff, e_fs_len]; omega
    rw [h3, h4]
    by_cases hij : j = i
    · rw [if_pos hij, if_neg (by rw [e_fs_len]; omega)]
    · rw [if_neg hij]
theorem e_fs_sr (w : eW) (M : eM) (a : Nat) {ks : List Nat} {j : Nat} (x : Nat) (h1 : ks.getD j 0 = 2) : e_fs w (e_sr M a j x) a ks = (e_fs w M a ks).set j (e_rv w x) := by
  apply List.ext_getElem?
  intro i
  rw [List.getElem?_set]
  by_cases hi : i < ks.length
  · rw [e_fs_get w _ a hi, e_fs_get w _ a hi]
    by_cases hij : j = i
    · subst hij
      rw [if_pos rfl, if_pos (by rw [e_fs_len]; exact hi)]
      unfold e_gv
      rw [if_neg (by rw [h1]; decide), if_pos h1]
      simp [e_sr, e_u, e_cv]
    · rw [if_neg hij]
      have : i ≠ j := fun e => hij e.symm
      simp [e_gv, e_sr, e_u, this]
  · have h3 : (e_fs w (e_sr M a j x) a ks)[i]? = none := by rw [List.getElem?_eq_none_iff, e_fs_len]; omega
    have h4 : (e_fs w M a ks)[i]? = none := by rw [List.getElem?_eq_none_iff, e_fs_len]; omega
    rw [h3, h4]
    by_cases hij : j = i
    · rw [if_pos hij, if_neg (by rw [e_fs_len]; omega)]
    · rw [if_neg hij]
