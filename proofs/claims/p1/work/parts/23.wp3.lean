/-- TierMillModel.next(II)I -/
theorem kd52 {pc : Nat} {q : eI} (h : e_d52.lookup pc = some q) : e_dec 52 pc = some q := h
theorem L52 : (e_m 52).2.2.1 = 3 := rfl
theorem R52 : (e_m 52).2.2.2.1 = (some .int) := rfl
set_option maxRecDepth 100000 in
def w_Mod_next_37 (l0 : Nat) (M : eM) (Q : Int32 → eM → Prop) : Prop := e_ob M l0 12 ∧ ((1 : Int32) = 0 ∨ (1 : Int32) = 1) ∧ ∀ M4 : eM, M4 = e_si M l0 82 (1 : Int32) → Q (0 : Int32) M4
set_option maxRecDepth 100000 in
theorem b_Mod_next_37 {d : Nat} {l0 : Nat} {M : eM} {Q : Int32 → eM → Prop} (hd : 1 ≤ d) (h : w_Mod_next_37 l0 M Q ) : e_E 52 d 0 0 37 [(0, .ref l0)] [] M (e_QI Q) := by
  unfold w_Mod_next_37 at h
  refine r_aload_n (kd52 rfl) rfl rfl ?_
  refine r_iconst (kd52 rfl) (y := 1) (by decide) rfl ?_
  obtain ⟨g, h⟩ := h
  obtain ⟨gb, h⟩ := h
  have h := h _ rfl
  refine r_put3 (kd52 rfl) (by decide) rfl g gb rfl ?_
  refine r_iconst (kd52 rfl) (y := 0) (by decide) rfl ?_
  exact r_ireturn (kd52 rfl) R52 h
set_option maxRecDepth 100000 in
def w_Mod_next (l0 : Nat) (l1 : Int32) (l2 : Int32) (M : eM) (Q : Int32 → eM → Prop) : Prop := e_ob M l0 12 ∧ ((gi M l0 82) = 0 → e_ob M l0 12 ∧ e_ob M l0 12 ∧ ((gi M l0 4) ≤ (gi M l0 81) → w_Mod_next_37 l0 M Q) ∧ (¬ (gi M l0 4) ≤ (gi M l0 81) → e_ob M l0 12 ∧ e_ob M l0 12 ∧ e_ai M (gr M l0 3) (gi M l0 81) ∧ w_Mod_within (gi M (gr M l0 3) (gi M l0 81).toNatClampNeg) l1 l2 M (fun (v2 : Int32) (M1 : eM) => (¬ v2 = 0 → e_ob M1 l0 12 ∧ e_ob M1 l0 12 ∧ ∀ M3 : eM, M3 = e_si M1 l0 81 ((gi M1 l0 81) + 1) → e_ob M3 l0 12 ∧ e_ob M3 l0 12 ∧ e_ai M3 (gr M3 l0 3) ((gi M3 l0 81) - 1) ∧ Q (gi M3 (gr M3 l0 3) ((gi M3 l0 81) - 1).toNatClampNeg) M3) ∧ (v2 = 0 → w_Mod_next_37 l0 M1 Q)))) ∧ (¬ (gi M l0 82) = 0 → Q (0 : Int32) M)
set_option maxRecDepth 100000 in
theorem b_Mod_next {d : Nat} {l0 : Nat} {l1 : Int32} {l2 : Int32} {M : eM} {Q : Int32 → eM → Prop} (hd : 1 ≤ d) (h : w_Mod_next l0 l1 l2 M Q) : e_CI 52 d 0 0 [.ref l0, .int l1, .int l2] M Q := by
  unfold w_Mod_next at h
  show e_E 52 d 0 0 0 [(0, .ref l0), (1, .int l1), (2, .int l2)] [] M (e_QI Q)
  refine r_aload_n (kd52 rfl) rfl rfl ?_
  obtain ⟨g, h⟩ := h
  refine r_get3 (kd52 rfl) (by decide) rfl g rfl ?_
  refine r_if_eq (kd52 rfl) rfl (fun c => ?_) (fun c => ?_)
  · have h := h.1 c
    refine r_aload_n (kd52 rfl) rfl rfl ?_
    obtain ⟨g, h⟩ := h
    refine r_get0 (kd52 rfl) (by decide) rfl g rfl ?_
    refine r_aload_n (kd52 rfl) rfl rfl ?_
    obtain ⟨g, h⟩ := h
    refine r_get0 (kd52 rfl) (by decide) rfl g rfl ?_
    refine r_icmp_ge (kd52 rfl) rfl (fun c => ?_) (fun c => ?_)
    · have h := h.1 c
      exact (b_Mod_next_37 hd h).less (e_sc (List.mem_of_getElem? (i := 0) rfl) e_sn)
    · have h := h.2 c
      refine r_aload_n (kd52 rfl) rfl rfl ?_
      obtain ⟨g, h⟩ := h
      refine r_get2 (kd52 rfl) (by decide) rfl g rfl ?_
      refine r_aload_n (kd52 rfl) rfl rfl ?_
      obtain ⟨g, h⟩ := h
      refine r_get0 (kd52 rfl) (by decide) rfl g rfl ?_
      obtain ⟨g, h⟩ := h
      refine r_iaload (kd52 rfl) g rfl ?_
      refine r_iload_n (kd52 rfl) rfl rfl ?_
      refine r_iload_n (kd52 rfl) rfl rfl ?_
      refine r_callSI (d' := d - 1) (by omega) (kd52 rfl) (by decide) rfl rfl rfl rfl (Nat.le_of_ble_eq_true rfl) rfl L50 (Nat.le_of_ble_eq_true rfl) (Nat.le_of_ble_eq_true rfl) (Nat.zero_le _) (Nat.zero_le _) rfl rfl rfl (b_Mod_within (by omega) h) (fun x1 M1 h => ?_)
      refine r_if_ne (kd52 rfl) rfl (fun c => ?_) (fun c => ?_)
      · have h := h.1 c
        refine r_aload_n (kd52 rfl) rfl rfl ?_
        refine r_dup (kd52 rfl) rfl rfl ?_
        obtain ⟨g, h⟩ := h
        refine r_get0 (kd52 rfl) (by decide) rfl g rfl ?_
        refine r_iconst (kd52 rfl) (y := 1) (by decide) rfl ?_
        refine r_iadd (kd52 rfl) rfl ?_
        obtain ⟨g, h⟩ := h
        have h := h _ rfl
        refine r_put0 (kd52 rfl) (by decide) rfl g rfl ?_
        refine r_aload_n (kd52 rfl) rfl rfl ?_
        obtain ⟨g, h⟩ := h
        refine r_get2 (kd52 rfl) (by decide) rfl g rfl ?_
        refine r_aload_n (kd52 rfl) rfl rfl ?_
        obtain ⟨g, h⟩ := h
        refine r_get0 (kd52 rfl) (by decide) rfl g rfl ?_
        refine r_iconst (kd52 rfl) (y := 1) (by decide) rfl ?_
        refine r_isub (kd52 rfl) rfl ?_
        obtain ⟨g, h⟩ := h
        refine r_iaload (kd52 rfl) g rfl ?_
        exact r_ireturn (kd52 rfl) R52 h
      · have h := h.2 c
        exact (b_Mod_next_37 hd h).less (e_sc (List.mem_of_getElem? (i := 0) rfl) e_sn)
  · have h := h.2 c
    refine r_iconst (kd52 rfl) (y := 0) (by decide) rfl ?_
    exact r_ireturn (kd52 rfl) R52 h
/-- TierMillModel.takeApart()Z -/
theorem kd53 {pc : Nat} {q : eI} (h : e_d53.lookup pc = some q) : e_dec 53 pc = some q := h
theorem L53 : (e_m 53).2.2.1 = 2 := rfl
theorem R53 : (e_m 53).2.2.2.1 = (some .boolean) := rfl
set_option maxRecDepth 100000 in
def w_Mod_takeApart_211 (s0 : Int32) (M : eM) (Q : Int32 → eM → Prop) : Prop := (s0 = 0 ∨ s0 = 1) ∧ Q s0 M
set_option maxRecDepth 100000 in
theorem b_Mod_takeApart_211 {d : Nat} {s0 : Int32} {M : eM} {Q : Int32 → eM → Prop} (hd : 2 ≤ d) (h : w_Mod_takeApart_211 s0 M Q ) : e_E 53 d 0 0 211 [] [.int s0] M (e_QI Q) := by
  unfold w_Mod_takeApart_211 at h
  exact r_zreturn (kd53 rfl) R53 h.1 h.2
set_option maxRecDepth 100000 in
def w_Mod_takeApart_199 (l0 : Nat) (M : eM) (Q : Int32 → eM → Prop) : Prop := e_ob M l0 12 ∧ (¬ (gi M l0 82) = 0 → w_Mod_takeApart_211 0 M Q) ∧ ((gi M l0 82) = 0 → w_Mod_takeApart_211 1 M Q)
set_option maxRecDepth 100000 in
theorem b_Mod_takeApart_199 {d : Nat} {l0 : Nat} {M : eM} {Q : Int32 → eM → Prop} (hd : 2 ≤ d) (h : w_Mod_takeApart_199 l0 M Q ) : e_E 53 d 0 0 199 [(0, .ref l0)] [] M (e_QI Q) := by
  unfold w_Mod_takeApart_199 at h
  refine r_aload_n (kd53 rfl) rfl rfl ?_
  obtain ⟨g, h⟩ := h
  refine r_get3 (kd53 rfl) (by decide) rfl g rfl ?_
  refine r_if_ne (kd53 rfl) rfl (fun c => ?_) (fun c => ?_)
  · have h := h.1 c
    refine r_iconst (kd53 rfl) (y := 0) (by decide) rfl ?_
    exact (b_Mod_takeApart_211 hd h).less e_sn
  · have h := h.2 c
    refine r_iconst (kd53 rfl) (y := 1) (by decide) rfl ?_
    refine r_goto (kd53 rfl) ?_
    exact (b_Mod_takeApart_211 hd h).less e_sn
set_option maxRecDepth 100000 in
def w_Mod_takeApart_176 (l0 : Nat) (M : eM) (Q : Int32 → eM → Prop) : Prop := e_ob M l0 12 ∧ (¬ (gi M l0 82) = 0 → w_Mod_takeApart_199 l0 M Q) ∧ ((gi M l0 82) = 0 → e_ob M l0 12 ∧ e_ob M l0 12 ∧ ((gi M l0 4) ≤ (gi M l0 81) → w_Mod_takeApart_199 l0 M Q) ∧ (¬ (gi M l0 4) ≤ (gi M l0 81) → e_ob M l0 12 ∧ ((1 : Int32) = 0 ∨ (1 : Int32) = 1) ∧ ∀ M13 : eM, M13 = e_si M l0 82 (1 : Int32) → w_Mod_takeApart_199 l0 M13 Q))
set_option maxRecDepth 100000 in
theorem b_Mod_takeApart_176 {d : Nat} {l0 : Nat} {M : eM} {Q : Int32 → eM → Prop} (hd : 2 ≤ d) (h : w_Mod_takeApart_176 l0 M Q ) : e_E 53 d 0 0 176 [(0, .ref l0)] [] M (e_QI Q) := by
  unfold w_Mod_takeApart_176 at h
  refine r_aload_n (kd53 rfl) rfl rfl ?_
  obtain ⟨g, h⟩ := h
  refine r_get3 (kd53 rfl) (by decide) rfl g rfl ?_
  refine r_if_ne (kd53 rfl) rfl (fun c => ?_) (fun c => ?_)
  · have h := h.1 c
    exact (b_Mod_takeApart_199 hd h).less (e_sc (List.mem_of_getElem? (i := 0) rfl) e_sn)
  · have h := h.2 c
    refine r_aload_n (kd53 rfl) rfl rfl ?_
    obtain ⟨g, h⟩ := h
    refine r_get0 (kd53 rfl) (by decide) rfl g rfl ?_
    refine r_aload_n (kd53 rfl) rfl rfl ?_
    obtain ⟨g, h⟩ := h
    refine r_get0 (kd53 rfl) (by decide) rfl g rfl ?_
    refine r_icmp_ge (kd53 rfl) rfl (fun c => ?_) (fun c => ?_)
    · have h := h.1 c
      exact (b_Mod_takeApart_199 hd h).less (e_sc (List.mem_of_getElem? (i := 0) rfl) e_sn)
    · have h := h.2 c
      refine r_aload_n (kd53 rfl) rfl rfl ?_
      refine r_iconst (kd53 rfl) (y := 1) (by decide) rfl ?_
      obtain ⟨g, h⟩ := h
      obtain ⟨gb, h⟩ := h
      have h := h _ rfl
      refine r_put3 (kd53 rfl) (by decide) rfl g gb rfl ?_
      exact (b_Mod_takeApart_199 hd h).less (e_sc (List.mem_of_getElem? (i := 0) rfl) e_sn)
set_option maxRecDepth 100000 in
def w_Mod_takeApart_132 (l0 : Nat) (M : eM) (Q : Int32 → eM → Prop) : Prop := e_ob M l0 12 ∧ e_ob M l0 12 ∧ (((gi M l0 11) * (gi M l0 15)) ≤ 0 → w_Mod_takeApart_176 l0 M Q) ∧ (¬ ((gi M l0 11) * (gi M l0 15)) ≤ 0 → e_ob M l0 12 ∧ (¬ (gi M l0 82) = 0 → w_Mod_takeApart_176 l0 M Q) ∧ ((gi M l0 82) = 0 → e_ob M l0 12 ∧ ¬ (gi M l0 15) = 0 ∧ e_ob M l0 12 ∧ ¬ (gi M l0 15) = 0 ∧ False))
set_option maxRecDepth 100000 in
theorem b_Mod_takeApart_132 {d : Nat} {l0 : Nat} {M : eM} {Q : Int32 → eM → Prop} (hd : 2 ≤ d) (h : w_Mod_takeApart_132 l0 M Q ) : e_E 53 d 0 0 132 [(0, .ref l0)] [] M (e_QI Q) := by
  unfold w_Mod_takeApart_132 at h
  refine r_iconst (kd53 rfl) (y := 0) (by decide) rfl ?_
  refine r_istore_n (kd53 rfl) L53 (by decide) rfl rfl ?_
  refine r_iload_n (kd53 rfl) rfl rfl ?_
  refine r_aload_n (kd53 rfl) rfl rfl ?_
  obtain ⟨g, h⟩ := h
  refine r_get0 (kd53 rfl) (by decide) rfl g rfl ?_
  refine r_aload_n (kd53 rfl) rfl rfl ?_
  obtain ⟨g, h⟩ := h
  refine r_get0 (kd53 rfl) (by decide) rfl g rfl ?_
  refine r_imul (kd53 rfl) rfl ?_
  refine r_icmp_ge (kd53 rfl) rfl (fun c => ?_) (fun c => ?_)
  · have h := h.1 c
    exact (b_Mod_takeApart_176 hd h).less (e_sc (List.mem_of_getElem? (i := 1) rfl) e_sn)
  · have h := h.2 c
    refine r_aload_n (kd53 rfl) rfl rfl ?_
    obtain ⟨g, h⟩ := h
    refine r_get3 (kd53 rfl) (by decide) rfl g rfl ?_
    refine r_if_ne (kd53 rfl) rfl (fun c => ?_) (fun c => ?_)
    · have h := h.1 c
      exact (b_Mod_takeApart_176 hd h).less (e_sc (List.mem_of_getElem? (i := 1) rfl) e_sn)
    · have h := h.2 c
      refine r_aload_n (kd53 rfl) rfl rfl ?_
      refine r_iload_n (kd53 rfl) rfl rfl ?_
      refine r_aload_n (kd53 rfl) rfl rfl ?_
      obtain ⟨g, h⟩ := h
      refine r_get0 (kd53 rfl) (by decide) rfl g rfl ?_
      obtain ⟨g, h⟩ := h
      refine r_idiv (kd53 rfl) g rfl ?_
      refine r_iload_n (kd53 rfl) rfl rfl ?_
      refine r_aload_n (kd53 rfl) rfl rfl ?_
      obtain ⟨g, h⟩ := h
      refine r_get0 (kd53 rfl) (by decide) rfl g rfl ?_
      obtain ⟨g, h⟩ := h
      refine r_irem (kd53 rfl) g rfl ?_
      exact False.elim h
set_option maxRecDepth 100000 in
def w_Mod_takeApart_93 (l0 : Nat) (M : eM) (Q : Int32 → eM → Prop) : Prop := e_ob M l0 12 ∧ w_Mod_next l0 1 16 M (fun (v11 : Int32) (M10 : eM) => e_ob M10 l0 12 ∧ ∀ M12 : eM, M12 = e_si M10 l0 19 v11 → e_ob M12 l0 12 ∧ ((gi M12 l0 19) ≤ 0 → w_Mod_takeApart_132 l0 M12 Q) ∧ (¬ (gi M12 l0 19) ≤ 0 → e_ob M12 l0 12 ∧ (¬ (gi M12 l0 82) = 0 → w_Mod_takeApart_132 l0 M12 Q) ∧ ((gi M12 l0 82) = 0 → False)))
set_option maxRecDepth 100000 in
theorem b_Mod_takeApart_93 {d : Nat} {l0 : Nat} {M : eM} {Q : Int32 → eM → Prop} (hd : 2 ≤ d) (h : w_Mod_takeApart_93 l0 M Q ) : e_E 53 d 0 0 93 [(0, .ref l0)] [] M (e_QI Q) := by
  unfold w_Mod_takeApart_93 at h
  refine r_aload_n (kd53 rfl) rfl rfl ?_
  refine r_aload_n (kd53 rfl) rfl rfl ?_
  refine r_iconst (kd53 rfl) (y := 1) (by decide) rfl ?_
  refine r_bipush (kd53 rfl) (y := 16) (by decide) rfl ?_
  obtain ⟨g, h⟩ := h
  refine r_callVI (d' := d - 1) (by omega) (kd53 rfl) (by decide) rfl rfl rfl rfl (Nat.le_of_ble_eq_true rfl) rfl L52 (Nat.le_of_ble_eq_true rfl) (Nat.le_of_ble_eq_true rfl) g (Nat.zero_le _) (Nat.zero_le _) rfl rfl rfl (b_Mod_next (by omega) h) (fun x1 M1 h => ?_)
  obtain ⟨g, h⟩ := h
  have h := h _ rfl
  refine r_put0 (kd53 rfl) (by decide) rfl g rfl ?_
  refine r_iconst (kd53 rfl) (y := 0) (by decide) rfl ?_
  refine r_istore_n (kd53 rfl) L53 (by decide) rfl rfl ?_
  refine r_iload_n (kd53 rfl) rfl rfl ?_
  refine r_aload_n (kd53 rfl) rfl rfl ?_
  obtain ⟨g, h⟩ := h
  refine r_get0 (kd53 rfl) (by decide) rfl g rfl ?_
  refine r_icmp_ge (kd53 rfl) rfl (fun c => ?_) (fun c => ?_)
  · have h := h.1 c
    exact (b_Mod_takeApart_132 hd h).less (e_sc (List.mem_of_getElem? (i := 1) rfl) e_sn)
  · have h := h.2 c
    refine r_aload_n (kd53 rfl) rfl rfl ?_
    obtain ⟨g, h⟩ := h
    refine r_get3 (kd53 rfl) (by decide) rfl g rfl ?_
    refine r_if_ne (kd53 rfl) rfl (fun c => ?_) (fun c => ?_)
    · have h := h.1 c
      exact (b_Mod_takeApart_132 hd h).less (e_sc (List.mem_of_getElem? (i := 1) rfl) e_sn)
    · have h := h.2 c
      refine r_aload_n (kd53 rfl) rfl rfl ?_
      refine r_iload_n (kd53 rfl) rfl rfl ?_
      exact False.elim h
set_option maxRecDepth 100000 in
def w_Mod_takeApart_54 (l0 : Nat) (M : eM) (Q : Int32 → eM → Prop) : Prop := e_ob M l0 12 ∧ w_Mod_next l0 0 8 M (fun (v8 : Int32) (M7 : eM) => e_ob M7 l0 12 ∧ ∀ M9 : eM, M9 = e_si M7 l0 15 v8 → e_ob M9 l0 12 ∧ ((gi M9 l0 15) ≤ 0 → w_Mod_takeApart_93 l0 M9 Q) ∧ (¬ (gi M9 l0 15) ≤ 0 → e_ob M9 l0 12 ∧ (¬ (gi M9 l0 82) = 0 → w_Mod_takeApart_93 l0 M9 Q) ∧ ((gi M9 l0 82) = 0 → False)))
set_option maxRecDepth 100000 in
theorem b_Mod_takeApart_54 {d : Nat} {l0 : Nat} {M : eM} {Q : Int32 → eM → Prop} (hd : 2 ≤ d) (h : w_Mod_takeApart_54 l0 M Q ) : e_E 53 d 0 0 54 [(0, .ref l0)] [] M (e_QI Q) := by
  unfold w_Mod_takeApart_54 at h
  refine r_aload_n (kd53 rfl) rfl rfl ?_
  refine r_aload_n (kd53 rfl) rfl rfl ?_
  refine r_iconst (kd53 rfl) (y := 0) (by decide) rfl ?_
  refine r_bipush (kd53 rfl) (y := 8) (by decide) rfl ?_
  obtain ⟨g, h⟩ := h
  refine r_callVI (d' := d - 1) (by omega) (kd53 rfl) (by decide) rfl rfl rfl rfl (Nat.le_of_ble_eq_true rfl) rfl L52 (Nat.le_of_ble_eq_true rfl) (Nat.le_of_ble_eq_true rfl) g (Nat.zero_le _) (Nat.zero_le _) rfl rfl rfl (b_Mod_next (by omega) h) (fun x1 M1 h => ?_)
  obtain ⟨g, h⟩ := h
  have h := h _ rfl
  refine r_put0 (kd53 rfl) (by decide) rfl g rfl ?_
  refine r_iconst (kd53 rfl) (y := 0) (by decide) rfl ?_
  refine r_istore_n (kd53 rfl) L53 (by decide) rfl rfl ?_
  refine r_iload_n (kd53 rfl) rfl rfl ?_
  refine r_aload_n (kd53 rfl) rfl rfl ?_
  obtain ⟨g, h⟩ := h
  refine r_get0 (kd53 rfl) (by decide) rfl g rfl ?_
  refine r_icmp_ge (kd53 rfl) rfl (fun c => ?_) (fun c => ?_)
  · have h := h.1 c
    exact (b_Mod_takeApart_93 hd h).less (e_sc (List.mem_of_getElem? (i := 1) rfl) e_sn)
  · have h := h.2 c
    refine r_aload_n (kd53 rfl) rfl rfl ?_
    obtain ⟨g, h⟩ := h
    refine r_get3 (kd53 rfl) (by decide) rfl g rfl ?_
    refine r_if_ne (kd53 rfl) rfl (fun c => ?_) (fun c => ?_)
    · have h := h.1 c
      exact (b_Mod_takeApart_93 hd h).less (e_sc (List.mem_of_getElem? (i := 1) rfl) e_sn)
    · have h := h.2 c
      refine r_aload_n (kd53 rfl) rfl rfl ?_
      refine r_iload_n (kd53 rfl) rfl rfl ?_
      exact False.elim h
set_option maxRecDepth 100000 in
def w_Mod_takeApart (l0 : Nat) (M : eM) (Q : Int32 → eM → Prop) : Prop := e_ob M l0 12 ∧ ∀ M1 : eM, M1 = e_si M l0 81 0 → e_ob M1 l0 12 ∧ ((0 : Int32) = 0 ∨ (0 : Int32) = 1) ∧ ∀ M2 : eM, M2 = e_si M1 l0 82 (0 : Int32) → e_ob M2 l0 12 ∧ ∀ M3 : eM, M3 = e_si M2 l0 11 0 → e_ob M3 l0 12 ∧ w_Mod_next l0 0 8 M3 (fun (v5 : Int32) (M4 : eM) => e_ob M4 l0 12 ∧ ∀ M6 : eM, M6 = e_si M4 l0 11 v5 → e_ob M6 l0 12 ∧ ((gi M6 l0 11) ≤ 0 → w_Mod_takeApart_54 l0 M6 Q) ∧ (¬ (gi M6 l0 11) ≤ 0 → e_ob M6 l0 12 ∧ (¬ (gi M6 l0 82) = 0 → w_Mod_takeApart_54 l0 M6 Q) ∧ ((gi M6 l0 82) = 0 → False)))
set_option maxRecDepth 100000 in
theorem b_Mod_takeApart {d : Nat} {l0 : Nat} {M : eM} {Q : Int32 → eM → Prop} (hd : 2 ≤ d) (h : w_Mod_takeApart l0 M Q) : e_CI 53 d 0 0 [.ref l0] M Q := by
  unfold w_Mod_takeApart at h
  show e_E 53 d 0 0 0 [(0, .ref l0)] [] M (e_QI Q)
  refine r_aload_n (kd53 rfl) rfl rfl ?_
  refine r_iconst (kd53 rfl) (y := 0) (by decide) rfl ?_
  obtain ⟨g, h⟩ := h
  have h := h _ rfl
  refine r_put0 (kd53 rfl) (by decide) rfl g rfl ?_
  refine r_aload_n (kd53 rfl) rfl rfl ?_
  refine r_iconst (kd53 rfl) (y := 0) (by decide) rfl ?_
  obtain ⟨g, h⟩ := h
  obtain ⟨gb, h⟩ := h
  have h := h _ rfl
  refine r_put3 (kd53 rfl) (by decide) rfl g gb rfl ?_
  refine r_aload_n (kd53 rfl) rfl rfl ?_
  refine r_iconst (kd53 rfl) (y := 0) (by decide) rfl ?_
  obtain ⟨g, h⟩ := h
  have h := h _ rfl
  refine r_put0 (kd53 rfl) (by decide) rfl g rfl ?_
  refine r_aload_n (kd53 rfl) rfl rfl ?_
  refine r_aload_n (kd53 rfl) rfl rfl ?_
  refine r_iconst (kd53 rfl) (y := 0) (by decide) rfl ?_
  refine r_bipush (kd53 rfl) (y := 8) (by decide) rfl ?_
  obtain ⟨g, h⟩ := h
  refine r_callVI (d' := d - 1) (by omega) (kd53 rfl) (by decide) rfl rfl rfl rfl (Nat.le_of_ble_eq_true rfl) rfl L52 (Nat.le_of_ble_eq_true rfl) (Nat.le_of_ble_eq_true rfl) g (Nat.zero_le _) (Nat.zero_le _) rfl rfl rfl (b_Mod_next (by omega) h) (fun x1 M1 h => ?_)
  obtain ⟨g, h⟩ := h
  have h := h _ rfl
  refine r_put0 (kd53 rfl) (by decide) rfl g rfl ?_
  refine r_iconst (kd53 rfl) (y := 0) (by decide) rfl ?_
  refine r_istore_n (kd53 rfl) L53 (by decide) rfl rfl ?_
  refine r_iload_n (kd53 rfl) rfl rfl ?_
  refine r_aload_n (kd53 rfl) rfl rfl ?_
  obtain ⟨g, h⟩ := h
  refine r_get0 (kd53 rfl) (by decide) rfl g rfl ?_
  refine r_icmp_ge (kd53 rfl) rfl (fun c => ?_) (fun c => ?_)
  · have h := h.1 c
    exact (b_Mod_takeApart_54 hd h).less (e_sc (List.mem_of_getElem? (i := 1) rfl) e_sn)
  · have h := h.2 c
    refine r_aload_n (kd53 rfl) rfl rfl ?_
    obtain ⟨g, h⟩ := h
    refine r_get3 (kd53 rfl) (by decide) rfl g rfl ?_
    refine r_if_ne (kd53 rfl) rfl (fun c => ?_) (fun c => ?_)
    · have h := h.1 c
      exact (b_Mod_takeApart_54 hd h).less (e_sc (List.mem_of_getElem? (i := 1) rfl) e_sn)
    · have h := h.2 c
      refine r_aload_n (kd53 rfl) rfl rfl ?_
      refine r_iload_n (kd53 rfl) rfl rfl ?_
      exact False.elim h
/-- TierMillModel.findFault(III)Z -/
theorem kd54 {pc : Nat} {q : eI} (h : e_d54.lookup pc = some q) : e_dec 54 pc = some q := h
theorem L54 : (e_m 54).2.2.1 = 4 := rfl
theorem R54 : (e_m 54).2.2.2.1 = (some .boolean) := rfl
def w_Mod_findFault (l0 : Nat) (l1 : Int32) (l2 : Int32) (l3 : Int32) (M : eM) (Q : Int32 → eM → Prop) : Prop := e_ob M l0 12 ∧ ∀ M1 : eM, M1 = e_si M l0 8 l1 → e_ob M1 l0 12 ∧ ∀ M2 : eM, M2 = e_si M1 l0 10 l2 → e_ob M2 l0 12 ∧ ∀ M3 : eM, M3 = e_si M2 l0 9 l3 → ((0 : Int32) = 0 ∨ (0 : Int32) = 1) ∧ Q (0 : Int32) M3
theorem b_Mod_findFault {d : Nat} {l0 : Nat} {l1 : Int32} {l2 : Int32} {l3 : Int32} {M : eM} {Q : Int32 → eM → Prop} (hd : 0 ≤ d) (h : w_Mod_findFault l0 l1 l2 l3 M Q) : e_CI 54 d 0 0 [.ref l0, .int l1, .int l2, .int l3] M Q := by
  unfold w_Mod_findFault at h
  show e_E 54 d 0 0 0 [(0, .ref l0), (1, .int l1), (2, .int l2), (3, .int l3)] [] M (e_QI Q)
  refine r_aload_n (kd54 rfl) rfl rfl ?_
  refine r_iload_n (kd54 rfl) rfl rfl ?_
  obtain ⟨g, h⟩ := h
  have h := h _ rfl
  refine r_put0 (kd54 rfl) (by decide) rfl g rfl ?_
  refine r_aload_n (kd54 rfl) rfl rfl ?_
  refine r_iload_n (kd54 rfl) rfl rfl ?_
  obtain ⟨g, h⟩ := h
  have h := h _ rfl
  refine r_put0 (kd54 rfl) (by decide) rfl g rfl ?_
  refine r_aload_n (kd54 rfl) rfl rfl ?_
  refine r_iload_n (kd54 rfl) rfl rfl ?_
  obtain ⟨g, h⟩ := h
  have h := h _ rfl
  refine r_put0 (kd54 rfl) (by decide) rfl g rfl ?_
  refine r_iconst (kd54 rfl) (y := 0) (by decide) rfl ?_
  exact r_zreturn (kd54 rfl) R54 h.1 h.2
/-- TierMillModel.isFine()Z -/
theorem kd55 {pc : Nat} {q : eI} (h : e_d55.lookup pc = some q) : e_dec 55 pc = some q := h
theorem L55 : (e_m 55).2.2.1 = 3 := rfl
theorem R55 : (e_m 55).2.2.2.1 = (some .boolean) := rfl
set_option maxRecDepth 100000 in
def w_Mod_isFine_51 : Nat → Nat → Int32 → Int32 → eM → (Int32 → eM → Prop) → (Nat → Int32 → eM → Prop) → Prop
  | 0, _, _, _, _, _, _ => False
  | n + 1, l0, l1, l2, M, Q, k41 => e_ob M l0 12 ∧ e_ai M (gr M l0 25) l1 ∧ ((gi M (gr M l0 25) l1.toNatClampNeg) ≤ l2 → k41 l0 (l1 + 1) M) ∧ (¬ (gi M (gr M l0 25) l1.toNatClampNeg) ≤ l2 → e_ob M l0 12 ∧ e_ar M (gr M l0 27) 22 ((120 * l1) + l2) ∧ ((gi M (gr M l0 27) ((120 * l1) + l2).toNatClampNeg) = 0 → (fun l0 l1 l2 M => w_Mod_isFine_51 n l0 l1 l2 M Q k41) l0 l1 (l2 + 1) M) ∧ (¬ (gi M (gr M l0 27) ((120 * l1) + l2).toNatClampNeg) = 0 → False))
set_option maxRecDepth 100000 in
theorem b_Mod_isFine_51 {d : Nat} {Q : Int32 → eM → Prop} {k41 : Nat → Int32 → eM → Prop} (hd : 3 ≤ d) (n : Nat) (hk41 : ∀ (l0 : Nat) (l1 : Int32) (M : eM), k41 l0 l1 M → e_E 55 d 0 0 41 [(0, .ref l0), (1, .int l1)] [] M (e_QI Q)) : ∀ (l0 : Nat) (l1 : Int32) (l2 : Int32) (M : eM), w_Mod_isFine_51 n l0 l1 l2 M Q k41 → e_E 55 d 0 0 51 [(0, .ref l0), (1, .int l1), (2, .int l2)] [] M (e_QI Q) := by
  induction n with
  | zero => intro l0 l1 l2 M h; exact False.elim h
  | succ n ih =>
    intro l0 l1 l2 M h
    have hk51 := ih
    refine r_iload_n (kd55 rfl) rfl rfl ?_
    refine r_aload_n (kd55 rfl) rfl rfl ?_
    obtain ⟨g, h⟩ := h
    refine r_get2 (kd55 rfl) (by decide) rfl g rfl ?_
    refine r_iload_n (kd55 rfl) rfl rfl ?_
    obtain ⟨g, h⟩ := h
    refine r_iaload (kd55 rfl) g rfl ?_
    refine r_icmp_ge (kd55 rfl) rfl (fun c => ?_) (fun c => ?_)
    · have h := h.1 c
      refine r_iinc (kd55 rfl) rfl (y := 1) (by decide) L55 (by decide) rfl rfl ?_
      refine r_goto (kd55 rfl) ?_
      exact (hk41 _ _ _ h).less (e_sc (List.mem_of_getElem? (i := 1) rfl) (e_sc (List.mem_of_getElem? (i := 0) rfl) e_sn))
    · have h := h.2 c
      refine r_aload_n (kd55 rfl) rfl rfl ?_
      obtain ⟨g, h⟩ := h
      refine r_get2 (kd55 rfl) (by decide) rfl g rfl ?_
      refine r_bipush (kd55 rfl) (y := 120) (by decide) rfl ?_
      refine r_iload_n (kd55 rfl) rfl rfl ?_
      refine r_imul (kd55 rfl) rfl ?_
      refine r_iload_n (kd55 rfl) rfl rfl ?_
      refine r_iadd (kd55 rfl) rfl ?_
      obtain ⟨g, h⟩ := h
      refine r_baload (kd55 rfl) g rfl ?_
      refine r_if_eq (kd55 rfl) rfl (fun c => ?_) (fun c => ?_)
      · have h := h.1 c
        refine r_iinc (kd55 rfl) rfl (y := 1) (by decide) L55 (by decide) rfl rfl ?_
        refine r_goto (kd55 rfl) ?_
        exact (hk51 _ _ _ _ h).less (e_sc (List.mem_of_getElem? (i := 1) rfl) (e_sc (List.mem_of_getElem? (i := 2) rfl) (e_sc (List.mem_of_getElem? (i := 0) rfl) e_sn)))
      · have h := h.2 c
        refine r_aload_n (kd55 rfl) rfl rfl ?_
        refine r_iload_n (kd55 rfl) rfl rfl ?_
        refine r_iload_n (kd55 rfl) rfl rfl ?_
        exact False.elim h
set_option maxRecDepth 100000 in
def w_Mod_isFine_41 : Nat → Nat → Int32 → eM → (Int32 → eM → Prop) → Prop
  | 0, _, _, _, _ => False
  | n + 1, l0, l1, M, Q => e_ob M l0 12 ∧ ((gi M l0 19) ≤ l1 → e_ob M l0 12 ∧ ((gi M l0 19) ≤ 0 → ((1 : Int32) = 0 ∨ (1 : Int32) = 1) ∧ Q (1 : Int32) M) ∧ (¬ (gi M l0 19) ≤ 0 → False)) ∧ (¬ (gi M l0 19) ≤ l1 → ∃ n6 : Nat, w_Mod_isFine_51 n6 l0 l1 0 M Q (fun l0 l1 M => w_Mod_isFine_41 n l0 l1 M Q ))
set_option maxRecDepth 100000 in
theorem b_Mod_isFine_41 {d : Nat} {Q : Int32 → eM → Prop} (hd : 3 ≤ d) (n : Nat) : ∀ (l0 : Nat) (l1 : Int32) (M : eM), w_Mod_isFine_41 n l0 l1 M Q → e_E 55 d 0 0 41 [(0, .ref l0), (1, .int l1)] [] M (e_QI Q) := by
  induction n with
  | zero => intro l0 l1 M h; exact False.elim h
  | succ n ih =>
    intro l0 l1 M h
    have hk41 := ih
    refine r_iload_n (kd55 rfl) rfl rfl ?_
    refine r_aload_n (kd55 rfl) rfl rfl ?_
    obtain ⟨g, h⟩ := h
    refine r_get0 (kd55 rfl) (by decide) rfl g rfl ?_
    refine r_icmp_ge (kd55 rfl) rfl (fun c => ?_) (fun c => ?_)
    · have h := h.1 c
      refine r_iconst (kd55 rfl) (y := 0) (by decide) rfl ?_
      refine r_istore_n (kd55 rfl) L55 (by decide) rfl rfl ?_
      refine r_iload_n (kd55 rfl) rfl rfl ?_
      refine r_aload_n (kd55 rfl) rfl rfl ?_
      obtain ⟨g, h⟩ := h
      refine r_get0 (kd55 rfl) (by decide) rfl g rfl ?_
      refine r_icmp_ge (kd55 rfl) rfl (fun c => ?_) (fun c => ?_)
      · have h := h.1 c
        refine r_iconst (kd55 rfl) (y := 1) (by decide) rfl ?_
        exact r_zreturn (kd55 rfl) R55 h.1 h.2
      · have h := h.2 c
        refine r_aload_n (kd55 rfl) rfl rfl ?_
        refine r_iload_n (kd55 rfl) rfl rfl ?_
        exact False.elim h
    · have h := h.2 c
      refine r_iconst (kd55 rfl) (y := 0) (by decide) rfl ?_
      refine r_istore_n (kd55 rfl) L55 (by decide) rfl rfl ?_
      obtain ⟨n, h⟩ := h
      exact (b_Mod_isFine_51 hd n hk41 _ _ _ _ h).less (e_sc (List.mem_of_getElem? (i := 1) rfl) (e_sc (List.mem_of_getElem? (i := 2) rfl) (e_sc (List.mem_of_getElem? (i := 0) rfl) e_sn)))
set_option maxRecDepth 100000 in
def w_Mod_isFine (l0 : Nat) (M : eM) (Q : Int32 → eM → Prop) : Prop := e_ob M l0 12 ∧ w_Mod_takeApart l0 M (fun (v2 : Int32) (M1 : eM) => (¬ v2 = 0 → e_ob M1 l0 12 ∧ ((gi M1 l0 19) ≤ 0 → ∃ n3 : Nat, w_Mod_isFine_41 n3 l0 0 M1 Q) ∧ (¬ (gi M1 l0 19) ≤ 0 → False)) ∧ (v2 = 0 → e_ob M1 l0 12 ∧ e_ob M1 l0 12 ∧ w_Mod_findFault l0 1 0 (gi M1 l0 81) M1 (fun (v5 : Int32) (M4 : eM) => (v5 = 0 ∨ v5 = 1) ∧ Q v5 M4)))
set_option maxRecDepth 100000 in
theorem b_Mod_isFine {d : Nat} {l0 : Nat} {M : eM} {Q : Int32 → eM → Prop} (hd : 3 ≤ d) (h : w_Mod_isFine l0 M Q) : e_CI 55 d 0 0 [.ref l0] M Q := by
  unfold w_Mod_isFine at h
  show e_E 55 d 0 0 0 [(0, .ref l0)] [] M (e_QI Q)
  refine r_aload_n (kd55 rfl) rfl rfl ?_
  obtain ⟨g, h⟩ := h
  refine r_callVI (d' := d - 1) (by omega) (kd55 rfl) (by decide) rfl rfl rfl rfl (Nat.le_of_ble_eq_true rfl) rfl L53 (Nat.le_of_ble_eq_true rfl) (Nat.le_of_ble_eq_true rfl) g (Nat.zero_le _) (Nat.zero_le _) rfl rfl rfl (b_Mod_takeApart (by omega) h) (fun x1 M1 h => ?_)
  refine r_if_ne (kd55 rfl) rfl (fun c => ?_) (fun c => ?_)
  · have h := h.1 c
    refine r_iconst (kd55 rfl) (y := 0) (by decide) rfl ?_
    refine r_istore_n (kd55 rfl) L55 (by decide) rfl rfl ?_
    refine r_iload_n (kd55 rfl) rfl rfl ?_
    refine r_aload_n (kd55 rfl) rfl rfl ?_
    obtain ⟨g, h⟩ := h
    refine r_get0 (kd55 rfl) (by decide) rfl g rfl ?_
    refine r_icmp_ge (kd55 rfl) rfl (fun c => ?_) (fun c => ?_)
    · have h := h.1 c
      refine r_iconst (kd55 rfl) (y := 0) (by decide) rfl ?_
      refine r_istore_n (kd55 rfl) L55 (by decide) rfl rfl ?_
      obtain ⟨n, h⟩ := h
      exact (b_Mod_isFine_41 hd n _ _ _ h).less (e_sc (List.mem_of_getElem? (i := 1) rfl) (e_sc (List.mem_of_getElem? (i := 0) rfl) e_sn))
    · have h := h.2 c
      refine r_aload_n (kd55 rfl) rfl rfl ?_
      refine r_iload_n (kd55 rfl) rfl rfl ?_
      exact False.elim h
  · have h := h.2 c
    refine r_aload_n (kd55 rfl) rfl rfl ?_
    refine r_iconst (kd55 rfl) (y := 1) (by decide) rfl ?_
    refine r_iconst (kd55 rfl) (y := 0) (by decide) rfl ?_
    refine r_aload_n (kd55 rfl) rfl rfl ?_
    obtain ⟨g, h⟩ := h
    refine r_get0 (kd55 rfl) (by decide) rfl g rfl ?_
    obtain ⟨g, h⟩ := h
    refine r_callVI (d' := d - 1) (by omega) (kd55 rfl) (by decide) rfl rfl rfl rfl (Nat.le_of_ble_eq_true rfl) rfl L54 (Nat.le_of_ble_eq_true rfl) (Nat.le_of_ble_eq_true rfl) g (Nat.zero_le _) (Nat.zero_le _) rfl rfl rfl (b_Mod_findFault (by omega) h) (fun x1 M1 h => ?_)
    exact r_zreturn (kd55 rfl) R55 h.1 h.2
/-- TierMillModel.load()I -/
theorem kd56 {pc : Nat} {q : eI} (h : e_d56.lookup pc = some q) : e_dec 56 pc = some q := h
theorem L56 : (e_m 56).2.2.1 = 3 := rfl
theorem R56 : (e_m 56).2.2.2.1 = (some .int) := rfl
set_option maxRecDepth 100000 in
def w_Mod_load_67 : Nat → Nat → Int32 → eM → (Int32 → eM → Prop) → Prop
  | 0, _, _, _, _ => False
  | n + 1, l0, l2, M, Q => e_ob M l0 12 ∧ ((gi M l0 4) ≤ l2 → e_ob M l0 12 ∧ e_ob M l0 12 ∧ ∀ M13 : eM, M13 = e_si M l0 6 (gi M l0 4) → e_ob M13 l0 12 ∧ ((1 : Int32) = 0 ∨ (1 : Int32) = 1) ∧ ∀ M14 : eM, M14 = e_si M13 l0 7 (1 : Int32) → e_ob M14 l0 12 ∧ ∀ M15 : eM, M15 = e_si M14 l0 41 0 → e_ob M15 l0 12 ∧ ∀ M16 : eM, M16 = e_si M15 l0 0 0 → e_ob M16 l0 12 ∧ Q (gi M16 l0 19) M16) ∧ (¬ (gi M l0 4) ≤ l2 → e_ob M l0 12 ∧ e_ob M l0 12 ∧ e_ai M (gr M l0 3) l2 ∧ e_ar M (gr M l0 5) 20 l2 ∧ ∀ M17 : eM, M17 = e_si M (gr M l0 5) l2.toNatClampNeg (gi M (gr M l0 3) l2.toNatClampNeg) → (fun l0 l2 M => w_Mod_load_67 n l0 l2 M Q ) l0 (l2 + 1) M17)
set_option maxRecDepth 100000 in
theorem b_Mod_load_67 {d : Nat} {Q : Int32 → eM → Prop} (hd : 4 ≤ d) (n : Nat) : ∀ (l0 : Nat) (l2 : Int32) (M : eM), w_Mod_load_67 n l0 l2 M Q → e_E 56 d 0 0 67 [(0, .ref l0), (2, .int l2)] [] M (e_QI Q) := by
  induction n with
  | zero => intro l0 l2 M h; exact False.elim h
  | succ n ih =>
    intro l0 l2 M h
    have hk67 := ih
    refine r_iload_n (kd56 rfl) rfl rfl ?_
    refine r_aload_n (kd56 rfl) rfl rfl ?_
    obtain ⟨g, h⟩ := h
    refine r_get0 (kd56 rfl) (by decide) rfl g rfl ?_
    refine r_icmp_ge (kd56 rfl) rfl (fun c => ?_) (fun c => ?_)
    · have h := h.1 c
      refine r_aload_n (kd56 rfl) rfl rfl ?_
      refine r_aload_n (kd56 rfl) rfl rfl ?_
      obtain ⟨g, h⟩ := h
      refine r_get0 (kd56 rfl) (by decide) rfl g rfl ?_
      obtain ⟨g, h⟩ := h
      have h := h _ rfl
      refine r_put0 (kd56 rfl) (by decide) rfl g rfl ?_
      refine r_aload_n (kd56 rfl) rfl rfl ?_
      refine r_iconst (kd56 rfl) (y := 1) (by decide) rfl ?_
      obtain ⟨g, h⟩ := h
      obtain ⟨gb, h⟩ := h
      have h := h _ rfl
      refine r_put3 (kd56 rfl) (by decide) rfl g gb rfl ?_
      refine r_aload_n (kd56 rfl) rfl rfl ?_
      refine r_iconst (kd56 rfl) (y := 0) (by decide) rfl ?_
      obtain ⟨g, h⟩ := h
      have h := h _ rfl
      refine r_put0 (kd56 rfl) (by decide) rfl g rfl ?_
      refine r_aload_n (kd56 rfl) rfl rfl ?_
      refine r_iconst (kd56 rfl) (y := 0) (by decide) rfl ?_
      obtain ⟨g, h⟩ := h
      have h := h _ rfl
      refine r_put0 (kd56 rfl) (by decide) rfl g rfl ?_
      refine r_aload_n (kd56 rfl) rfl rfl ?_
      obtain ⟨g, h⟩ := h
      refine r_get0 (kd56 rfl) (by decide) rfl g rfl ?_
      exact r_ireturn (kd56 rfl) R56 h
    · have h := h.2 c
      refine r_aload_n (kd56 rfl) rfl rfl ?_
      obtain ⟨g, h⟩ := h
      refine r_get2 (kd56 rfl) (by decide) rfl g rfl ?_
      refine r_iload_n (kd56 rfl) rfl rfl ?_
      refine r_aload_n (kd56 rfl) rfl rfl ?_
      obtain ⟨g, h⟩ := h
      refine r_get2 (kd56 rfl) (by decide) rfl g rfl ?_
      refine r_iload_n (kd56 rfl) rfl rfl ?_
      obtain ⟨g, h⟩ := h
      refine r_iaload (kd56 rfl) g rfl ?_
      obtain ⟨g, h⟩ := h
      have h := h _ rfl
      refine r_iastore (kd56 rfl) g rfl ?_
      refine r_iinc (kd56 rfl) rfl (y := 1) (by decide) L56 (by decide) rfl rfl ?_
      refine r_goto (kd56 rfl) ?_
      exact (hk67 _ _ _ h).less (e_sc (List.mem_of_getElem? (i := 1) rfl) (e_sc (List.mem_of_getElem? (i := 0) rfl) e_sn))
set_option maxRecDepth 100000 in
def w_Mod_load_10 : Nat → Nat → Int32 → eM → (Int32 → eM → Prop) → Prop
  | 0, _, _, _, _ => False
  | n + 1, l0, l1, M, Q => e_ob M l0 12 ∧ ((gi M l0 1) ≤ l1 → e_ob M l0 12 ∧ ∀ M3 : eM, M3 = e_si M l0 1 0 → e_ob M3 l0 12 ∧ w_Mod_isFine l0 M3 (fun (v5 : Int32) (M4 : eM) => (v5 = 0 → e_ob M4 l0 12 ∧ ((gi M4 l0 7) = 0 → e_ob M4 l0 12 ∧ w_Mod_raise l0 1 M4 (fun (v7 : Int32) (M6 : eM) => Q v7 M6)) ∧ (¬ (gi M4 l0 7) = 0 → False)) ∧ (¬ v5 = 0 → e_ob M4 l0 12 ∧ ∀ M8 : eM, M8 = e_si M4 l0 8 0 → e_ob M8 l0 12 ∧ ∀ M9 : eM, M9 = e_si M8 l0 9 0 → e_ob M9 l0 12 ∧ ∀ M10 : eM, M10 = e_si M9 l0 10 0 → ∃ n11 : Nat, w_Mod_load_67 n11 l0 0 M10 Q))) ∧ (¬ (gi M l0 1) ≤ l1 → e_ob M l0 12 ∧ e_ob M l0 12 ∧ e_ai M (gr M l0 2) l1 ∧ e_ar M (gr M l0 3) 20 l1 ∧ ∀ M12 : eM, M12 = e_si M (gr M l0 3) l1.toNatClampNeg (gi M (gr M l0 2) l1.toNatClampNeg) → (fun l0 l1 M => w_Mod_load_10 n l0 l1 M Q ) l0 (l1 + 1) M12)
set_option maxRecDepth 100000 in
theorem b_Mod_load_10 {d : Nat} {Q : Int32 → eM → Prop} (hd : 4 ≤ d) (n : Nat) : ∀ (l0 : Nat) (l1 : Int32) (M : eM), w_Mod_load_10 n l0 l1 M Q → e_E 56 d 0 0 10 [(0, .ref l0), (1, .int l1)] [] M (e_QI Q) := by
  induction n with
  | zero => intro l0 l1 M h; exact False.elim h
  | succ n ih =>
    intro l0 l1 M h
    have hk10 := ih
    refine r_iload_n (kd56 rfl) rfl rfl ?_
    refine r_aload_n (kd56 rfl) rfl rfl ?_
    obtain ⟨g, h⟩ := h
    refine r_get0 (kd56 rfl) (by decide) rfl g rfl ?_
    refine r_icmp_ge (kd56 rfl) rfl (fun c => ?_) (fun c => ?_)
    · have h := h.1 c
      refine r_aload_n (kd56 rfl) rfl rfl ?_
      refine r_iconst (kd56 rfl) (y := 0) (by decide) rfl ?_
      obtain ⟨g, h⟩ := h
      have h := h _ rfl
      refine r_put0 (kd56 rfl) (by decide) rfl g rfl ?_
      refine r_aload_n (kd56 rfl) rfl rfl ?_
      obtain ⟨g, h⟩ := h
      refine r_callVI (d' := d - 1) (by omega) (kd56 rfl) (by decide) rfl rfl rfl rfl (Nat.le_of_ble_eq_true rfl) rfl L55 (Nat.le_of_ble_eq_true rfl) (Nat.le_of_ble_eq_true rfl) g (Nat.zero_le _) (Nat.zero_le _) rfl rfl rfl (b_Mod_isFine (by omega) h) (fun x1 M1 h => ?_)
      refine r_istore_n (kd56 rfl) L56 (by decide) rfl rfl ?_
      refine r_iload_n (kd56 rfl) rfl rfl ?_
      refine r_if_eq (kd56 rfl) rfl (fun c => ?_) (fun c => ?_)
      · have h := h.1 c
        refine r_aload_n (kd56 rfl) rfl rfl ?_
        obtain ⟨g, h⟩ := h
        refine r_get3 (kd56 rfl) (by decide) rfl g rfl ?_
        refine r_if_eq (kd56 rfl) rfl (fun c => ?_) (fun c => ?_)
        · have h := h.1 c
          refine r_aload_n (kd56 rfl) rfl rfl ?_
          refine r_iconst (kd56 rfl) (y := 1) (by decide) rfl ?_
          obtain ⟨g, h⟩ := h
          refine r_callVI (d' := d - 1) (by omega) (kd56 rfl) (by decide) rfl rfl rfl rfl (Nat.le_of_ble_eq_true rfl) rfl L49 (Nat.le_of_ble_eq_true rfl) (Nat.le_of_ble_eq_true rfl) g (Nat.zero_le _) (Nat.zero_le _) rfl rfl rfl (b_Mod_raise (by omega) h) (fun x1 M1 h => ?_)
          exact r_ireturn (kd56 rfl) R56 h
        · have h := h.2 c
          refine r_aload_n (kd56 rfl) rfl rfl ?_
          exact False.elim h
      · have h := h.2 c
        refine r_aload_n (kd56 rfl) rfl rfl ?_
        refine r_iconst (kd56 rfl) (y := 0) (by decide) rfl ?_
        obtain ⟨g, h⟩ := h
        have h := h _ rfl
        refine r_put0 (kd56 rfl) (by decide) rfl g rfl ?_
        refine r_aload_n (kd56 rfl) rfl rfl ?_
        refine r_iconst (kd56 rfl) (y := 0) (by decide) rfl ?_
        obtain ⟨g, h⟩ := h
        have h := h _ rfl
        refine r_put0 (kd56 rfl) (by decide) rfl g rfl ?_
        refine r_aload_n (kd56 rfl) rfl rfl ?_
        refine r_iconst (kd56 rfl) (y := 0) (by decide) rfl ?_
        obtain ⟨g, h⟩ := h
        have h := h _ rfl
        refine r_put0 (kd56 rfl) (by decide) rfl g rfl ?_
        refine r_iconst (kd56 rfl) (y := 0) (by decide) rfl ?_
        refine r_istore_n (kd56 rfl) L56 (by decide) rfl rfl ?_
        obtain ⟨n, h⟩ := h
        exact (b_Mod_load_67 hd n _ _ _ h).less (e_sc (List.mem_of_getElem? (i := 2) rfl) (e_sc (List.mem_of_getElem? (i := 0) rfl) e_sn))
    · have h := h.2 c
      refine r_aload_n (kd56 rfl) rfl rfl ?_
      obtain ⟨g, h⟩ := h
      refine r_get2 (kd56 rfl) (by decide) rfl g rfl ?_
      refine r_iload_n (kd56 rfl) rfl rfl ?_
      refine r_aload_n (kd56 rfl) rfl rfl ?_
      obtain ⟨g, h⟩ := h
      refine r_get2 (kd56 rfl) (by decide) rfl g rfl ?_
      refine r_iload_n (kd56 rfl) rfl rfl ?_
      obtain ⟨g, h⟩ := h
      refine r_iaload (kd56 rfl) g rfl ?_
      obtain ⟨g, h⟩ := h
      have h := h _ rfl
      refine r_iastore (kd56 rfl) g rfl ?_
      refine r_iinc (kd56 rfl) rfl (y := 1) (by decide) L56 (by decide) rfl rfl ?_
      refine r_goto (kd56 rfl) ?_
      exact (hk10 _ _ _ h).less (e_sc (List.mem_of_getElem? (i := 1) rfl) (e_sc (List.mem_of_getElem? (i := 0) rfl) e_sn))
set_option maxRecDepth 100000 in
def w_Mod_load (l0 : Nat) (M : eM) (Q : Int32 → eM → Prop) : Prop := e_ob M l0 12 ∧ e_ob M l0 12 ∧ ∀ M1 : eM, M1 = e_si M l0 4 (gi M l0 1) → ∃ n2 : Nat, w_Mod_load_10 n2 l0 0 M1 Q
set_option maxRecDepth 100000 in
theorem b_Mod_load {d : Nat} {l0 : Nat} {M : eM} {Q : Int32 → eM → Prop} (hd : 4 ≤ d) (h : w_Mod_load l0 M Q) : e_CI 56 d 0 0 [.ref l0] M Q := by
  unfold w_Mod_load at h
  show e_E 56 d 0 0 0 [(0, .ref l0)] [] M (e_QI Q)
  refine r_aload_n (kd56 rfl) rfl rfl ?_
  refine r_aload_n (kd56 rfl) rfl rfl ?_
  obtain ⟨g, h⟩ := h
  refine r_get0 (kd56 rfl) (by decide) rfl g rfl ?_
  obtain ⟨g, h⟩ := h
  have h := h _ rfl
  refine r_put0 (kd56 rfl) (by decide) rfl g rfl ?_
  refine r_iconst (kd56 rfl) (y := 0) (by decide) rfl ?_
  refine r_istore_n (kd56 rfl) L56 (by decide) rfl rfl ?_
  obtain ⟨n, h⟩ := h
  exact (b_Mod_load_10 hd n _ _ _ h).less (e_sc (List.mem_of_getElem? (i := 1) rfl) (e_sc (List.mem_of_getElem? (i := 0) rfl) e_sn))
/-- TierMillModel.fault(I)I -/
theorem kd57 {pc : Nat} {q : eI} (h : e_d57.lookup pc = some q) : e_dec 57 pc = some q := h
theorem L57 : (e_m 57).2.2.1 = 2 := rfl
theorem R57 : (e_m 57).2.2.2.1 = (some .int) := rfl
def w_Mod_fault_41 (s0 : Int32) (M : eM) (Q : Int32 → eM → Prop) : Prop := Q s0 M
theorem b_Mod_fault_41 {d : Nat} {s0 : Int32} {M : eM} {Q : Int32 → eM → Prop} (hd : 0 ≤ d) (h : w_Mod_fault_41 s0 M Q ) : e_E 57 d 0 0 41 [] [.int s0] M (e_QI Q) := by
  unfold w_Mod_fault_41 at h
  exact r_ireturn (kd57 rfl) R57 h
def w_Mod_fault (l0 : Nat) (l1 : Int32) (M : eM) (Q : Int32 → eM → Prop) : Prop := e_ob M l0 12 ∧ ∀ M1 : eM, M1 = e_si M l0 0 0 → (¬ l1 = 0 → (¬ l1 = 1 → (¬ l1 = 2 → w_Mod_fault_41 (-1) M1 Q) ∧ (l1 = 2 → e_ob M1 l0 12 ∧ w_Mod_fault_41 (gi M1 l0 10) M1 Q)) ∧ (l1 = 1 → e_ob M1 l0 12 ∧ w_Mod_fault_41 (gi M1 l0 9) M1 Q)) ∧ (l1 = 0 → e_ob M1 l0 12 ∧ w_Mod_fault_41 (gi M1 l0 8) M1 Q)
theorem b_Mod_fault {d : Nat} {l0 : Nat} {l1 : Int32} {M : eM} {Q : Int32 → eM → Prop} (hd : 0 ≤ d) (h : w_Mod_fault l0 l1 M Q) : e_CI 57 d 0 0 [.ref l0, .int l1] M Q := by
  unfold w_Mod_fault at h
  show e_E 57 d 0 0 0 [(0, .ref l0), (1, .int l1)] [] M (e_QI Q)
  refine r_aload_n (kd57 rfl) rfl rfl ?_
  refine r_iconst (kd57 rfl) (y := 0) (by decide) rfl ?_
  obtain ⟨g, h⟩ := h
  have h := h _ rfl
  refine r_put0 (kd57 rfl) (by decide) rfl g rfl ?_
  refine r_iload_n (kd57 rfl) rfl rfl ?_
  refine r_if_ne (kd57 rfl) rfl (fun c => ?_) (fun c => ?_)
  · have h := h.1 c
    refine r_iload_n (kd57 rfl) rfl rfl ?_
    refine r_iconst (kd57 rfl) (y := 1) (by decide) rfl ?_
    refine r_icmp_ne (kd57 rfl) rfl (fun c => ?_) (fun c => ?_)
    · have h := h.1 c
      refine r_iload_n (kd57 rfl) rfl rfl ?_
      refine r_iconst (kd57 rfl) (y := 2) (by decide) rfl ?_
      refine r_icmp_ne (kd57 rfl) rfl (fun c => ?_) (fun c => ?_)
      · have h := h.1 c
        refine r_iconst (kd57 rfl) (y := (-1)) (by decide) rfl ?_
        exact (b_Mod_fault_41 hd h).less e_sn
      · have h := h.2 c
        refine r_aload_n (kd57 rfl) rfl rfl ?_
        obtain ⟨g, h⟩ := h
        refine r_get0 (kd57 rfl) (by decide) rfl g rfl ?_
        refine r_goto (kd57 rfl) ?_
        exact (b_Mod_fault_41 hd h).less e_sn
    · have h := h.2 c
      refine r_aload_n (kd57 rfl) rfl rfl ?_
      obtain ⟨g, h⟩ := h
      refine r_get0 (kd57 rfl) (by decide) rfl g rfl ?_
      refine r_goto (kd57 rfl) ?_
      exact (b_Mod_fault_41 hd h).less e_sn
  · have h := h.2 c
    refine r_aload_n (kd57 rfl) rfl rfl ?_
    obtain ⟨g, h⟩ := h
    refine r_get0 (kd57 rfl) (by decide) rfl g rfl ?_
    refine r_goto (kd57 rfl) ?_
    exact (b_Mod_fault_41 hd h).less e_sn
/-- TierMillModel.kind(III)I -/
theorem kd58 {pc : Nat} {q : eI} (h : e_d58.lookup pc = some q) : e_dec 58 pc = some q := h
theorem L58 : (e_m 58).2.2.1 = 5 := rfl
theorem R58 : (e_m 58).2.2.2.1 = (some .int) := rfl
set_option maxRecDepth 100000 in
def w_Mod_kind_71 (M : eM) (Q : Int32 → eM → Prop) : Prop := Q ((-1) : Int32) M
set_option maxRecDepth 100000 in
theorem b_Mod_kind_71 {d : Nat} {M : eM} {Q : Int32 → eM → Prop} (hd : 1 ≤ d) (h : w_Mod_kind_71 M Q ) : e_E 58 d 0 0 71 [] [] M (e_QI Q) := by
  unfold w_Mod_kind_71 at h
  refine r_iconst (kd58 rfl) (y := (-1)) (by decide) rfl ?_
  exact r_ireturn (kd58 rfl) R58 h
set_option maxRecDepth 100000 in
def w_Mod_kind_148 (s0 : Int32) (M : eM) (Q : Int32 → eM → Prop) : Prop := Q s0 M
set_option maxRecDepth 100000 in
theorem b_Mod_kind_148 {d : Nat} {s0 : Int32} {M : eM} {Q : Int32 → eM → Prop} (hd : 1 ≤ d) (h : w_Mod_kind_148 s0 M Q ) : e_E 58 d 0 0 148 [] [.int s0] M (e_QI Q) := by
  unfold w_Mod_kind_148 at h
  exact r_ireturn (kd58 rfl) R58 h
set_option maxRecDepth 100000 in
def w_Mod_kind (l0 : Nat) (l1 : Int32) (l2 : Int32) (l3 : Int32) (M : eM) (Q : Int32 → eM → Prop) : Prop := e_ob M l0 12 ∧ ∀ M1 : eM, M1 = e_si M l0 0 0 → e_ob M1 l0 12 ∧ ((gi M1 l0 7) = 0 → w_Mod_kind_71 M1 Q) ∧ (¬ (gi M1 l0 7) = 0 → e_ob M1 l0 12 ∧ w_Mod_within l1 0 ((gi M1 l0 19) - 1) M1 (fun (v3 : Int32) (M2 : eM) => (v3 = 0 → w_Mod_kind_71 M2 Q) ∧ (¬ v3 = 0 → e_ob M2 l0 12 ∧ e_ai M2 (gr M2 l0 25) l1 ∧ w_Mod_within l2 0 ((gi M2 (gr M2 l0 25) l1.toNatClampNeg) - 1) M2 (fun (v5 : Int32) (M4 : eM) => (v5 = 0 → w_Mod_kind_71 M4 Q) ∧ (¬ v5 = 0 → e_ob M4 l0 12 ∧ e_ai M4 (gr M4 l0 29) ((120 * l1) + l2) ∧ ((gi M4 (gr M4 l0 29) ((120 * l1) + l2).toNatClampNeg) = (-1) → w_Mod_kind_71 M4 Q) ∧ (¬ (gi M4 (gr M4 l0 29) ((120 * l1) + l2).toNatClampNeg) = (-1) → e_ob M4 l0 12 ∧ e_ar M4 (gr M4 l0 27) 22 ((120 * l1) + l2) ∧ (¬ (gi M4 (gr M4 l0 27) ((120 * l1) + l2).toNatClampNeg) = 0 → e_ob M4 l0 12 ∧ e_ai M4 (gr M4 l0 23) l1 ∧ w_Mod_within l3 0 ((gi M4 (gr M4 l0 23) l1.toNatClampNeg) - 1) M4 (fun (v7 : Int32) (M6 : eM) => (v7 = 0 → e_ob M6 l0 12 ∧ e_ai M6 (gr M6 l0 29) ((120 * l1) + l2) ∧ w_Mod_within l3 100 (99 + (gi M6 (gr M6 l0 29) ((120 * l1) + l2).toNatClampNeg)) M6 (fun (v9 : Int32) (M8 : eM) => (v9 = 0 → w_Mod_kind_148 (-1) M8 Q) ∧ (¬ v9 = 0 → e_ob M8 l0 12 ∧ e_ai M8 (gr M8 l0 30) (((16 * ((120 * l1) + l2)) + l3) - 92) ∧ w_Mod_kind_148 (gi M8 (gr M8 l0 30) (((16 * ((120 * l1) + l2)) + l3) - 92).toNatClampNeg) M8 Q))) ∧ (¬ v7 = 0 → e_ob M6 l0 12 ∧ e_ai M6 (gr M6 l0 30) ((16 * ((120 * l1) + l2)) + l3) ∧ Q (gi M6 (gr M6 l0 30) ((16 * ((120 * l1) + l2)) + l3).toNatClampNeg) M6))) ∧ ((gi M4 (gr M4 l0 27) ((120 * l1) + l2).toNatClampNeg) = 0 → w_Mod_kind_71 M4 Q)))))))
set_option maxRecDepth 100000 in
theorem b_Mod_kind {d : Nat} {l0 : Nat} {l1 : Int32} {l2 : Int32} {l3 : Int32} {M : eM} {Q : Int32 → eM → Prop} (hd : 1 ≤ d) (h : w_Mod_kind l0 l1 l2 l3 M Q) : e_CI 58 d 0 0 [.ref l0, .int l1, .int l2, .int l3] M Q := by
  unfold w_Mod_kind at h
  show e_E 58 d 0 0 0 [(0, .ref l0), (1, .int l1), (2, .int l2), (3, .int l3)] [] M (e_QI Q)
  refine r_aload_n (kd58 rfl) rfl rfl ?_
  refine r_iconst (kd58 rfl) (y := 0) (by decide) rfl ?_
  obtain ⟨g, h⟩ := h
  have h := h _ rfl
  refine r_put0 (kd58 rfl) (by decide) rfl g rfl ?_
  refine r_aload_n (kd58 rfl) rfl rfl ?_
  obtain ⟨g, h⟩ := h
  refine r_get3 (kd58 rfl) (by decide) rfl g rfl ?_
  refine r_if_eq (kd58 rfl) rfl (fun c => ?_) (fun c => ?_)
  · have h := h.1 c
    exact (b_Mod_kind_71 hd h).less e_sn
  · have h := h.2 c
    refine r_iload_n (kd58 rfl) rfl rfl ?_
    refine r_iconst (kd58 rfl) (y := 0) (by decide) rfl ?_
    refine r_aload_n (kd58 rfl) rfl rfl ?_
    obtain ⟨g, h⟩ := h
    refine r_get0 (kd58 rfl) (by decide) rfl g rfl ?_
    refine r_iconst (kd58 rfl) (y := 1) (by decide) rfl ?_
    refine r_isub (kd58 rfl) rfl ?_
    refine r_callSI (d' := d - 1) (by omega) (kd58 rfl) (by decide) rfl rfl rfl rfl (Nat.le_of_ble_eq_true rfl) rfl L50 (Nat.le_of_ble_eq_true rfl) (Nat.le_of_ble_eq_true rfl) (Nat.zero_le _) (Nat.zero_le _) rfl rfl rfl (b_Mod_within (by omega) h) (fun x1 M1 h => ?_)
    refine r_if_eq (kd58 rfl) rfl (fun c => ?_) (fun c => ?_)
    · have h := h.1 c
      exact (b_Mod_kind_71 hd h).less e_sn
    · have h := h.2 c
      refine r_iload_n (kd58 rfl) rfl rfl ?_
      refine r_iconst (kd58 rfl) (y := 0) (by decide) rfl ?_
      refine r_aload_n (kd58 rfl) rfl rfl ?_
      obtain ⟨g, h⟩ := h
      refine r_get2 (kd58 rfl) (by decide) rfl g rfl ?_
      refine r_iload_n (kd58 rfl) rfl rfl ?_
      obtain ⟨g, h⟩ := h
      refine r_iaload (kd58 rfl) g rfl ?_
      refine r_iconst (kd58 rfl) (y := 1) (by decide) rfl ?_
      refine r_isub (kd58 rfl) rfl ?_
      refine r_callSI (d' := d - 1) (by omega) (kd58 rfl) (by decide) rfl rfl rfl rfl (Nat.le_of_ble_eq_true rfl) rfl L50 (Nat.le_of_ble_eq_true rfl) (Nat.le_of_ble_eq_true rfl) (Nat.zero_le _) (Nat.zero_le _) rfl rfl rfl (b_Mod_within (by omega) h) (fun x1 M1 h => ?_)
      refine r_if_eq (kd58 rfl) rfl (fun c => ?_) (fun c => ?_)
      · have h := h.1 c
        exact (b_Mod_kind_71 hd h).less e_sn
      · have h := h.2 c
        refine r_aload_n (kd58 rfl) rfl rfl ?_
        obtain ⟨g, h⟩ := h
        refine r_get2 (kd58 rfl) (by decide) rfl g rfl ?_
        refine r_bipush (kd58 rfl) (y := 120) (by decide) rfl ?_
        refine r_iload_n (kd58 rfl) rfl rfl ?_
        refine r_imul (kd58 rfl) rfl ?_
        refine r_iload_n (kd58 rfl) rfl rfl ?_
        refine r_iadd (kd58 rfl) rfl ?_
        obtain ⟨g, h⟩ := h
        refine r_iaload (kd58 rfl) g rfl ?_
        refine r_iconst (kd58 rfl) (y := (-1)) (by decide) rfl ?_
        refine r_icmp_eq (kd58 rfl) rfl (fun c => ?_) (fun c => ?_)
        · have h := h.1 c
          exact (b_Mod_kind_71 hd h).less e_sn
        · have h := h.2 c
          refine r_aload_n (kd58 rfl) rfl rfl ?_
          obtain ⟨g, h⟩ := h
          refine r_get2 (kd58 rfl) (by decide) rfl g rfl ?_
          refine r_bipush (kd58 rfl) (y := 120) (by decide) rfl ?_
          refine r_iload_n (kd58 rfl) rfl rfl ?_
          refine r_imul (kd58 rfl) rfl ?_
          refine r_iload_n (kd58 rfl) rfl rfl ?_
          refine r_iadd (kd58 rfl) rfl ?_
          obtain ⟨g, h⟩ := h
          refine r_baload (kd58 rfl) g rfl ?_
          refine r_if_ne (kd58 rfl) rfl (fun c => ?_) (fun c => ?_)
          · have h := h.1 c
            refine r_bipush (kd58 rfl) (y := 120) (by decide) rfl ?_
            refine r_iload_n (kd58 rfl) rfl rfl ?_
            refine r_imul (kd58 rfl) rfl ?_
            refine r_iload_n (kd58 rfl) rfl rfl ?_
            refine r_iadd (kd58 rfl) rfl ?_
            refine r_istore (kd58 rfl) L58 (by decide) rfl rfl ?_
            refine r_iload_n (kd58 rfl) rfl rfl ?_
            refine r_iconst (kd58 rfl) (y := 0) (by decide) rfl ?_
            refine r_aload_n (kd58 rfl) rfl rfl ?_
            obtain ⟨g, h⟩ := h
            refine r_get2 (kd58 rfl) (by decide) rfl g rfl ?_
            refine r_iload_n (kd58 rfl) rfl rfl ?_
            obtain ⟨g, h⟩ := h
            refine r_iaload (kd58 rfl) g rfl ?_
            refine r_iconst (kd58 rfl) (y := 1) (by decide) rfl ?_
            refine r_isub (kd58 rfl) rfl ?_
            refine r_callSI (d' := d - 1) (by omega) (kd58 rfl) (by decide) rfl rfl rfl rfl (Nat.le_of_ble_eq_true rfl) rfl L50 (Nat.le_of_ble_eq_true rfl) (Nat.le_of_ble_eq_true rfl) (Nat.zero_le _) (Nat.zero_le _) rfl rfl rfl (b_Mod_within (by omega) h) (fun x1 M1 h => ?_)
            refine r_if_eq (kd58 rfl) rfl (fun c => ?_) (fun c => ?_)
            · have h := h.1 c
              refine r_iload_n (kd58 rfl) rfl rfl ?_
              refine r_bipush (kd58 rfl) (y := 100) (by decide) rfl ?_
              refine r_bipush (kd58 rfl) (y := 99) (by decide) rfl ?_
              refine r_aload_n (kd58 rfl) rfl rfl ?_
              obtain ⟨g, h⟩ := h
              refine r_get2 (kd58 rfl) (by decide) rfl g rfl ?_
              refine r_iload (kd58 rfl) rfl rfl ?_
              obtain ⟨g, h⟩ := h
              refine r_iaload (kd58 rfl) g rfl ?_
              refine r_iadd (kd58 rfl) rfl ?_
              refine r_callSI (d' := d - 1) (by omega) (kd58 rfl) (by decide) rfl rfl rfl rfl (Nat.le_of_ble_eq_true rfl) rfl L50 (Nat.le_of_ble_eq_true rfl) (Nat.le_of_ble_eq_true rfl) (Nat.zero_le _) (Nat.zero_le _) rfl rfl rfl (b_Mod_within (by omega) h) (fun x1 M1 h => ?_)
              refine r_if_eq (kd58 rfl) rfl (fun c => ?_) (fun c => ?_)
              · have h := h.1 c
                refine r_iconst (kd58 rfl) (y := (-1)) (by decide) rfl ?_
                exact (b_Mod_kind_148 hd h).less e_sn
              · have h := h.2 c
                refine r_aload_n (kd58 rfl) rfl rfl ?_
                obtain ⟨g, h⟩ := h
                refine r_get2 (kd58 rfl) (by decide) rfl g rfl ?_
                refine r_bipush (kd58 rfl) (y := 16) (by decide) rfl ?_
                refine r_iload (kd58 rfl) rfl rfl ?_
                refine r_imul (kd58 rfl) rfl ?_
                refine r_iload_n (kd58 rfl) rfl rfl ?_
                refine r_iadd (kd58 rfl) rfl ?_
                refine r_bipush (kd58 rfl) (y := 92) (by decide) rfl ?_
                refine r_isub (kd58 rfl) rfl ?_
                obtain ⟨g, h⟩ := h
                refine r_iaload (kd58 rfl) g rfl ?_
                refine r_goto (kd58 rfl) ?_
                exact (b_Mod_kind_148 hd h).less e_sn
            · have h := h.2 c
              refine r_aload_n (kd58 rfl) rfl rfl ?_
              obtain ⟨g, h⟩ := h
              refine r_get2 (kd58 rfl) (by decide) rfl g rfl ?_
              refine r_bipush (kd58 rfl) (y := 16) (by decide) rfl ?_
              refine r_iload (kd58 rfl) rfl rfl ?_
              refine r_imul (kd58 rfl) rfl ?_
              refine r_iload_n (kd58 rfl) rfl rfl ?_
              refine r_iadd (kd58 rfl) rfl ?_
              obtain ⟨g, h⟩ := h
              refine r_iaload (kd58 rfl) g rfl ?_
              exact r_ireturn (kd58 rfl) R58 h
          · have h := h.2 c
            exact (b_Mod_kind_71 hd h).less e_sn
/-- TierMillModel.tiers(IIII)Z -/
theorem kd59 {pc : Nat} {q : eI} (h : e_d59.lookup pc = some q) : e_dec 59 pc = some q := h
theorem L59 : (e_m 59).2.2.1 = 5 := rfl
theorem R59 : (e_m 59).2.2.2.1 = (some .boolean) := rfl
set_option maxRecDepth 100000 in
def w_Mod_tiers_47 (M : eM) (Q : Int32 → eM → Prop) : Prop := ((0 : Int32) = 0 ∨ (0 : Int32) = 1) ∧ Q (0 : Int32) M
set_option maxRecDepth 100000 in
theorem b_Mod_tiers_47 {d : Nat} {M : eM} {Q : Int32 → eM → Prop} (hd : 1 ≤ d) (h : w_Mod_tiers_47 M Q ) : e_E 59 d 0 0 47 [] [] M (e_QI Q) := by
  unfold w_Mod_tiers_47 at h
  refine r_iconst (kd59 rfl) (y := 0) (by decide) rfl ?_
  exact r_zreturn (kd59 rfl) R59 h.1 h.2
set_option maxRecDepth 100000 in
def w_Mod_tiers (l0 : Nat) (l1 : Int32) (l2 : Int32) (l3 : Int32) (l4 : Int32) (M : eM) (Q : Int32 → eM → Prop) : Prop := e_ob M l0 12 ∧ ∀ M1 : eM, M1 = e_si M l0 0 0 → w_Mod_within l1 1 1000 M1 (fun (v3 : Int32) (M2 : eM) => (v3 = 0 → w_Mod_tiers_47 M2 Q) ∧ (¬ v3 = 0 → w_Mod_within l2 1 1000 M2 (fun (v5 : Int32) (M4 : eM) => (v5 = 0 → w_Mod_tiers_47 M4 Q) ∧ (¬ v5 = 0 → w_Mod_within l3 0 4 M4 (fun (v7 : Int32) (M6 : eM) => (v7 = 0 → w_Mod_tiers_47 M6 Q) ∧ (¬ v7 = 0 → w_Mod_within l4 0 120 M6 (fun (v9 : Int32) (M8 : eM) => (¬ v9 = 0 → e_ob M8 l0 12 ∧ ∀ M10 : eM, M10 = e_si M8 l0 34 l1 → e_ob M10 l0 12 ∧ ∀ M11 : eM, M11 = e_si M10 l0 35 l2 → e_ob M11 l0 12 ∧ ∀ M12 : eM, M12 = e_si M11 l0 36 l3 → e_ob M12 l0 12 ∧ ∀ M13 : eM, M13 = e_si M12 l0 37 l4 → ((1 : Int32) = 0 ∨ (1 : Int32) = 1) ∧ Q (1 : Int32) M13) ∧ (v9 = 0 → w_Mod_tiers_47 M8 Q))))))))
set_option maxRecDepth 100000 in
theorem b_Mod_tiers {d : Nat} {l0 : Nat} {l1 : Int32} {l2 : Int32} {l3 : Int32} {l4 : Int32} {M : eM} {Q : Int32 → eM → Prop} (hd : 1 ≤ d) (h : w_Mod_tiers l0 l1 l2 l3 l4 M Q) : e_CI 59 d 0 0 [.ref l0, .int l1, .int l2, .int l3, .int l4] M Q := by
  unfold w_Mod_tiers at h
  show e_E 59 d 0 0 0 [(0, .ref l0), (1, .int l1), (2, .int l2), (3, .int l3), (4, .int l4)] [] M (e_QI Q)
  refine r_aload_n (kd59 rfl) rfl rfl ?_
  refine r_iconst (kd59 rfl) (y := 0) (by decide) rfl ?_
  obtain ⟨g, h⟩ := h
  have h := h _ rfl
  refine r_put0 (kd59 rfl) (by decide) rfl g rfl ?_
  refine r_iload_n (kd59 rfl) rfl rfl ?_
  refine r_iconst (kd59 rfl) (y := 1) (by decide) rfl ?_
  refine r_sipush (kd59 rfl) (y := 1000) (by decide) rfl ?_
  refine r_callSI (d' := d - 1) (by omega) (kd59 rfl) (by decide) rfl rfl rfl rfl (Nat.le_of_ble_eq_true rfl) rfl L50 (Nat.le_of_ble_eq_true rfl) (Nat.le_of_ble_eq_true rfl) (Nat.zero_le _) (Nat.zero_le _) rfl rfl rfl (b_Mod_within (by omega) h) (fun x1 M1 h => ?_)
  refine r_if_eq (kd59 rfl) rfl (fun c => ?_) (fun c => ?_)
  · have h := h.1 c
    exact (b_Mod_tiers_47 hd h).less e_sn
  · have h := h.2 c
    refine r_iload_n (kd59 rfl) rfl rfl ?_
    refine r_iconst (kd59 rfl) (y := 1) (by decide) rfl ?_
    refine r_sipush (kd59 rfl) (y := 1000) (by decide) rfl ?_
    refine r_callSI (d' := d - 1) (by omega) (kd59 rfl) (by decide) rfl rfl rfl rfl (Nat.le_of_ble_eq_true rfl) rfl L50 (Nat.le_of_ble_eq_true rfl) (Nat.le_of_ble_eq_true rfl) (Nat.zero_le _) (Nat.zero_le _) rfl rfl rfl (b_Mod_within (by omega) h) (fun x1 M1 h => ?_)
    refine r_if_eq (kd59 rfl) rfl (fun c => ?_) (fun c => ?_)
    · have h := h.1 c
      exact (b_Mod_tiers_47 hd h).less e_sn
    · have h := h.2 c
      refine r_iload_n (kd59 rfl) rfl rfl ?_
      refine r_iconst (kd59 rfl) (y := 0) (by decide) rfl ?_
      refine r_iconst (kd59 rfl) (y := 4) (by decide) rfl ?_
      refine r_callSI (d' := d - 1) (by omega) (kd59 rfl) (by decide) rfl rfl rfl rfl (Nat.le_of_ble_eq_true rfl) rfl L50 (Nat.le_of_ble_eq_true rfl) (Nat.le_of_ble_eq_true rfl) (Nat.zero_le _) (Nat.zero_le _) rfl rfl rfl (b_Mod_within (by omega) h) (fun x1 M1 h => ?_)
      refine r_if_eq (kd59 rfl) rfl (fun c => ?_) (fun c => ?_)
      · have h := h.1 c
        exact (b_Mod_tiers_47 hd h).less e_sn
      · have h := h.2 c
        refine r_iload (kd59 rfl) rfl rfl ?_
        refine r_iconst (kd59 rfl) (y := 0) (by decide) rfl ?_
        refine r_bipush (kd59 rfl) (y := 120) (by decide) rfl ?_
        refine r_callSI (d' := d - 1) (by omega) (kd59 rfl) (by decide) rfl rfl rfl rfl (Nat.le_of_ble_eq_true rfl) rfl L50 (Nat.le_of_ble_eq_true rfl) (Nat.le_of_ble_eq_true rfl) (Nat.zero_le _) (Nat.zero_le _) rfl rfl rfl (b_Mod_within (by omega) h) (fun x1 M1 h => ?_)
        refine r_if_ne (kd59 rfl) rfl (fun c => ?_) (fun c => ?_)
        · have h := h.1 c
          refine r_aload_n (kd59 rfl) rfl rfl ?_
          refine r_iload_n (kd59 rfl) rfl rfl ?_
          obtain ⟨g, h⟩ := h
          have h := h _ rfl
          refine r_put0 (kd59 rfl) (by decide) rfl g rfl ?_
          refine r_aload_n (kd59 rfl) rfl rfl ?_
          refine r_iload_n (kd59 rfl) rfl rfl ?_
          obtain ⟨g, h⟩ := h
          have h := h _ rfl
          refine r_put0 (kd59 rfl) (by decide) rfl g rfl ?_
          refine r_aload_n (kd59 rfl) rfl rfl ?_
          refine r_iload_n (kd59 rfl) rfl rfl ?_
          obtain ⟨g, h⟩ := h
          have h := h _ rfl
          refine r_put0 (kd59 rfl) (by decide) rfl g rfl ?_
          refine r_aload_n (kd59 rfl) rfl rfl ?_
          refine r_iload (kd59 rfl) rfl rfl ?_
          obtain ⟨g, h⟩ := h
          have h := h _ rfl
          refine r_put0 (kd59 rfl) (by decide) rfl g rfl ?_
          refine r_iconst (kd59 rfl) (y := 1) (by decide) rfl ?_
          exact r_zreturn (kd59 rfl) R59 h.1 h.2
        · have h := h.2 c
          exact (b_Mod_tiers_47 hd h).less e_sn
/-- TierMillModel.room(I)Z -/
theorem kd60 {pc : Nat} {q : eI} (h : e_d60.lookup pc = some q) : e_dec 60 pc = some q := h
theorem L60 : (e_m 60).2.2.1 = 2 := rfl
theorem R60 : (e_m 60).2.2.2.1 = (some .boolean) := rfl
def w_Mod_room (l0 : Nat) (l1 : Int32) (M : eM) (Q : Int32 → eM → Prop) : Prop := e_ob M l0 12 ∧ ∀ M1 : eM, M1 = e_si M l0 0 0 → w_Mod_within l1 8 4000 M1 (fun (v3 : Int32) (M2 : eM) => (¬ v3 = 0 → e_ob M2 l0 12 ∧ ∀ M4 : eM, M4 = e_si M2 l0 38 l1 → ((1 : Int32) = 0 ∨ (1 : Int32) = 1) ∧ Q (1 : Int32) M4) ∧ (v3 = 0 → ((0 : Int32) = 0 ∨ (0 : Int32) = 1) ∧ Q (0 : Int32) M2))
theorem b_Mod_room {d : Nat} {l0 : Nat} {l1 : Int32} {M : eM} {Q : Int32 → eM → Prop} (hd : 1 ≤ d) (h : w_Mod_room l0 l1 M Q) : e_CI 60 d 0 0 [.ref l0, .int l1] M Q := by
  unfold w_Mod_room at h
  show e_E 60 d 0 0 0 [(0, .ref l0), (1, .int l1)] [] M (e_QI Q)
  refine r_aload_n (kd60 rfl) rfl rfl ?_
  refine r_iconst (kd60 rfl) (y := 0) (by decide) rfl ?_
  obtain ⟨g, h⟩ := h
  have h := h _ rfl
  refine r_put0 (kd60 rfl) (by decide) rfl g rfl ?_
  refine r_iload_n (kd60 rfl) rfl rfl ?_
  refine r_bipush (kd60 rfl) (y := 8) (by decide) rfl ?_
  refine r_sipush (kd60 rfl) (y := 4000) (by decide) rfl ?_
  refine r_callSI (d' := d - 1) (by omega) (kd60 rfl) (by decide) rfl rfl rfl rfl (Nat.le_of_ble_eq_true rfl) rfl L50 (Nat.le_of_ble_eq_true rfl) (Nat.le_of_ble_eq_true rfl) (Nat.zero_le _) (Nat.zero_le _) rfl rfl rfl (b_Mod_within (by omega) h) (fun x1 M1 h => ?_)
  refine r_if_ne (kd60 rfl) rfl (fun c => ?_) (fun c => ?_)
  · have h := h.1 c
    refine r_aload_n (kd60 rfl) rfl rfl ?_
    refine r_iload_n (kd60 rfl) rfl rfl ?_
    obtain ⟨g, h⟩ := h
    have h := h _ rfl
    refine r_put0 (kd60 rfl) (by decide) rfl g rfl ?_
    refine r_iconst (kd60 rfl) (y := 1) (by decide) rfl ?_
    exact r_zreturn (kd60 rfl) R60 h.1 h.2
  · have h := h.2 c
    refine r_iconst (kd60 rfl) (y := 0) (by decide) rfl ?_
    exact r_zreturn (kd60 rfl) R60 h.1 h.2
/-- TierMillModel.give(I)Z -/
theorem kd61 {pc : Nat} {q : eI} (h : e_d61.lookup pc = some q) : e_dec 61 pc = some q := h
theorem L61 : (e_m 61).2.2.1 = 2 := rfl
theorem R61 : (e_m 61).2.2.2.1 = (some .boolean) := rfl
def w_Mod_give (l0 : Nat) (l1 : Int32) (M : eM) (Q : Int32 → eM → Prop) : Prop := e_ob M l0 12 ∧ ∀ M1 : eM, M1 = e_si M l0 0 0 → e_ob M1 l0 12 ∧ (¬ (gi M1 l0 39) = 100 → e_ob M1 l0 12 ∧ e_ob M1 l0 12 ∧ e_ar M1 (gr M1 l0 40) 20 (gi M1 l0 39) ∧ ∀ M2 : eM, M2 = e_si M1 (gr M1 l0 40) (gi M1 l0 39).toNatClampNeg l1 → e_ob M2 l0 12 ∧ e_ob M2 l0 12 ∧ ∀ M3 : eM, M3 = e_si M2 l0 39 ((gi M2 l0 39) + 1) → ((1 : Int32) = 0 ∨ (1 : Int32) = 1) ∧ Q (1 : Int32) M3) ∧ ((gi M1 l0 39) = 100 → ((0 : Int32) = 0 ∨ (0 : Int32) = 1) ∧ Q (0 : Int32) M1)
theorem b_Mod_give {d : Nat} {l0 : Nat} {l1 : Int32} {M : eM} {Q : Int32 → eM → Prop} (hd : 0 ≤ d) (h : w_Mod_give l0 l1 M Q) : e_CI 61 d 0 0 [.ref l0, .int l1] M Q := by
  unfold w_Mod_give at h
  show e_E 61 d 0 0 0 [(0, .ref l0), (1, .int l1)] [] M (e_QI Q)
  refine r_aload_n (kd61 rfl) rfl rfl ?_
  refine r_iconst (kd61 rfl) (y := 0) (by decide) rfl ?_
  obtain ⟨g, h⟩ := h
  have h := h _ rfl
  refine r_put0 (kd61 rfl) (by decide) rfl g rfl ?_
  refine r_aload_n (kd61 rfl) rfl rfl ?_
  obtain ⟨g, h⟩ := h
  refine r_get0 (kd61 rfl) (by decide) rfl g rfl ?_
  refine r_bipush (kd61 rfl) (y := 100) (by decide) rfl ?_
  refine r_icmp_ne (kd61 rfl) rfl (fun c => ?_) (fun c => ?_)
  · have h := h.1 c
    refine r_aload_n (kd61 rfl) rfl rfl ?_
    obtain ⟨g, h⟩ := h
    refine r_get2 (kd61 rfl) (by decide) rfl g rfl ?_
    refine r_aload_n (kd61 rfl) rfl rfl ?_
    obtain ⟨g, h⟩ := h
    refine r_get0 (kd61 rfl) (by decide) rfl g rfl ?_
    refine r_iload_n (kd61 rfl) rfl rfl ?_
    obtain ⟨g, h⟩ := h
    have h := h _ rfl
    refine r_iastore (kd61 rfl) g rfl ?_
    refine r_aload_n (kd61 rfl) rfl rfl ?_
    refine r_dup (kd61 rfl) rfl rfl ?_
    obtain ⟨g, h⟩ := h
    refine r_get0 (kd61 rfl) (by decide) rfl g rfl ?_
    refine r_iconst (kd61 rfl) (y := 1) (by decide) rfl ?_
    refine r_iadd (kd61 rfl) rfl ?_
    obtain ⟨g, h⟩ := h
    have h := h _ rfl
    refine r_put0 (kd61 rfl) (by decide) rfl g rfl ?_
    refine r_iconst (kd61 rfl) (y := 1) (by decide) rfl ?_
    exact r_zreturn (kd61 rfl) R61 h.1 h.2
  · have h := h.2 c
    refine r_iconst (kd61 rfl) (y := 0) (by decide) rfl ?_
    exact r_zreturn (kd61 rfl) R61 h.1 h.2
/-- TierMillModel.start(IIII)Z -/
theorem kd62 {pc : Nat} {q : eI} (h : e_d62.lookup pc = some q) : e_dec 62 pc = some q := h
theorem L62 : (e_m 62).2.2.1 = 6 := rfl
theorem R62 : (e_m 62).2.2.2.1 = (some .boolean) := rfl
set_option maxRecDepth 100000 in
def w_Mod_start_155 : Nat → Nat → Int32 → eM → (Int32 → eM → Prop) → Prop
  | 0, _, _, _, _ => False
  | n + 1, l0, l5, M, Q => (15360 ≤ l5 → False) ∧ (¬ 15360 ≤ l5 → e_ob M l0 12 ∧ e_ar M (gr M l0 51) 20 l5 ∧ ∀ M21 : eM, M21 = e_si M (gr M l0 51) l5.toNatClampNeg 0 → (fun l0 l5 M => w_Mod_start_155 n l0 l5 M Q ) l0 (l5 + 1) M21)
set_option maxRecDepth 100000 in
theorem b_Mod_start_155 {d : Nat} {Q : Int32 → eM → Prop} (hd : 0 ≤ d) (n : Nat) : ∀ (l0 : Nat) (l5 : Int32) (M : eM), w_Mod_start_155 n l0 l5 M Q → e_E 62 d 0 0 155 [(0, .ref l0), (5, .int l5)] [] M (e_QI Q) := by
  induction n with
  | zero => intro l0 l5 M h; exact False.elim h
  | succ n ih =>
    intro l0 l5 M h
    have hk155 := ih
    refine r_iload (kd62 rfl) rfl rfl ?_
    refine r_sipush (kd62 rfl) (y := 15360) (by decide) rfl ?_
    refine r_icmp_ge (kd62 rfl) rfl (fun c => ?_) (fun c => ?_)
    · have h := h.1 c
      refine r_aload_n (kd62 rfl) rfl rfl ?_
      refine r_iconst (kd62 rfl) (y := 0) (by decide) rfl ?_
      exact False.elim h
    · have h := h.2 c
      refine r_aload_n (kd62 rfl) rfl rfl ?_
      obtain ⟨g, h⟩ := h
      refine r_get2 (kd62 rfl) (by decide) rfl g rfl ?_
      refine r_iload (kd62 rfl) rfl rfl ?_
      refine r_iconst (kd62 rfl) (y := 0) (by decide) rfl ?_
      obtain ⟨g, h⟩ := h
      have h := h _ rfl
      refine r_iastore (kd62 rfl) g rfl ?_
      refine r_iinc (kd62 rfl) rfl (y := 1) (by decide) L62 (by decide) rfl rfl ?_
      refine r_goto (kd62 rfl) ?_
      exact (hk155 _ _ _ h).less (e_sc (List.mem_of_getElem? (i := 1) rfl) (e_sc (List.mem_of_getElem? (i := 0) rfl) e_sn))
set_option maxRecDepth 100000 in
def w_Mod_start_123 : Nat → Nat → Int32 → eM → (Int32 → eM → Prop) → Prop
  | 0, _, _, _, _ => False
  | n + 1, l0, l5, M, Q => (16 ≤ l5 → ∃ n18 : Nat, w_Mod_start_155 n18 l0 0 M Q) ∧ (¬ 16 ≤ l5 → e_ob M l0 12 ∧ e_ar M (gr M l0 49) 20 l5 ∧ ∀ M19 : eM, M19 = e_si M (gr M l0 49) l5.toNatClampNeg 0 → e_ob M19 l0 12 ∧ e_ar M19 (gr M19 l0 50) 20 l5 ∧ ∀ M20 : eM, M20 = e_si M19 (gr M19 l0 50) l5.toNatClampNeg (-1) → (fun l0 l5 M => w_Mod_start_123 n l0 l5 M Q ) l0 (l5 + 1) M20)
set_option maxRecDepth 100000 in
theorem b_Mod_start_123 {d : Nat} {Q : Int32 → eM → Prop} (hd : 0 ≤ d) (n : Nat) : ∀ (l0 : Nat) (l5 : Int32) (M : eM), w_Mod_start_123 n l0 l5 M Q → e_E 62 d 0 0 123 [(0, .ref l0), (5, .int l5)] [] M (e_QI Q) := by
  induction n with
  | zero => intro l0 l5 M h; exact False.elim h
  | succ n ih =>
    intro l0 l5 M h
    have hk123 := ih
    refine r_iload (kd62 rfl) rfl rfl ?_
    refine r_bipush (kd62 rfl) (y := 16) (by decide) rfl ?_
    refine r_icmp_ge (kd62 rfl) rfl (fun c => ?_) (fun c => ?_)
    · have h := h.1 c
      refine r_iconst (kd62 rfl) (y := 0) (by decide) rfl ?_
      refine r_istore (kd62 rfl) L62 (by decide) rfl rfl ?_
      obtain ⟨n, h⟩ := h
      exact (b_Mod_start_155 hd n _ _ _ h).less (e_sc (List.mem_of_getElem? (i := 1) rfl) (e_sc (List.mem_of_getElem? (i := 0) rfl) e_sn))
    · have h := h.2 c
      refine r_aload_n (kd62 rfl) rfl rfl ?_
      obtain ⟨g, h⟩ := h
      refine r_get2 (kd62 rfl) (by decide) rfl g rfl ?_
      refine r_iload (kd62 rfl) rfl rfl ?_
      refine r_iconst (kd62 rfl) (y := 0) (by decide) rfl ?_
      obtain ⟨g, h⟩ := h
      have h := h _ rfl
      refine r_iastore (kd62 rfl) g rfl ?_
      refine r_aload_n (kd62 rfl) rfl rfl ?_
      obtain ⟨g, h⟩ := h
      refine r_get2 (kd62 rfl) (by decide) rfl g rfl ?_
      refine r_iload (kd62 rfl) rfl rfl ?_
      refine r_iconst (kd62 rfl) (y := (-1)) (by decide) rfl ?_
      obtain ⟨g, h⟩ := h
      have h := h _ rfl
      refine r_iastore (kd62 rfl) g rfl ?_
      refine r_iinc (kd62 rfl) rfl (y := 1) (by decide) L62 (by decide) rfl rfl ?_
      refine r_goto (kd62 rfl) ?_
      exact (hk123 _ _ _ h).less (e_sc (List.mem_of_getElem? (i := 1) rfl) (e_sc (List.mem_of_getElem? (i := 0) rfl) e_sn))
set_option maxRecDepth 100000 in
def w_Mod_start_17 : Nat → Nat → Int32 → eM → (Int32 → eM → Prop) → Prop
  | 0, _, _, _, _ => False
  | n + 1, l0, l5, M, Q => e_ob M l0 12 ∧ e_ai M (gr M l0 20) 0 ∧ ((gi M (gr M l0 20) (0 : Int32).toNatClampNeg) ≤ l5 → e_ob M l0 12 ∧ ∀ M3 : eM, M3 = e_si M l0 41 1 → e_ob M3 l0 12 ∧ ∀ M4 : eM, M4 = e_si M3 l0 42 0 → e_ob M4 l0 12 ∧ ∀ M5 : eM, M5 = e_si M4 l0 43 0 → e_ob M5 l0 12 ∧ ∀ M6 : eM, M6 = e_si M5 l0 44 0 → e_ob M6 l0 12 ∧ ∀ M7 : eM, M7 = e_si M6 l0 47 0 → e_ob M7 l0 12 ∧ ∀ M8 : eM, M8 = e_si M7 l0 52 0 → e_ob M8 l0 12 ∧ ∀ M9 : eM, M9 = e_si M8 l0 54 0 → e_ob M9 l0 12 ∧ ∀ M10 : eM, M10 = e_si M9 l0 58 0 → e_ob M10 l0 12 ∧ ∀ M11 : eM, M11 = e_si M10 l0 60 0 → e_ob M11 l0 12 ∧ ∀ M12 : eM, M12 = e_si M11 l0 71 0 → e_ob M12 l0 12 ∧ ∀ M13 : eM, M13 = e_si M12 l0 72 0 → e_ob M13 l0 12 ∧ ∀ M14 : eM, M14 = e_si M13 l0 73 0 → e_ob M14 l0 12 ∧ ∀ M15 : eM, M15 = e_si M14 l0 79 0 → e_ob M15 l0 12 ∧ e_ob M15 l0 12 ∧ ∀ M16 : eM, M16 = e_si M15 l0 70 (gi M15 l0 38) → ∃ n17 : Nat, w_Mod_start_123 n17 l0 0 M16 Q) ∧ (¬ (gi M (gr M l0 20) (0 : Int32).toNatClampNeg) ≤ l5 → e_ob M l0 12 ∧ e_ai M (gr M l0 21) l5 ∧ ((gi M (gr M l0 21) l5.toNatClampNeg) = 1 → (fun l0 l5 M => w_Mod_start_17 n l0 l5 M Q ) l0 (l5 + 1) M) ∧ (¬ (gi M (gr M l0 21) l5.toNatClampNeg) = 1 → ((0 : Int32) = 0 ∨ (0 : Int32) = 1) ∧ Q (0 : Int32) M))
set_option maxRecDepth 100000 in
theorem b_Mod_start_17 {d : Nat} {Q : Int32 → eM → Prop} (hd : 0 ≤ d) (n : Nat) : ∀ (l0 : Nat) (l5 : Int32) (M : eM), w_Mod_start_17 n l0 l5 M Q → e_E 62 d 0 0 17 [(0, .ref l0), (5, .int l5)] [] M (e_QI Q) := by
  induction n with
  | zero => intro l0 l5 M h; exact False.elim h
  | succ n ih =>
    intro l0 l5 M h
    have hk17 := ih
    refine r_iload (kd62 rfl) rfl rfl ?_
    refine r_aload_n (kd62 rfl) rfl rfl ?_
    obtain ⟨g, h⟩ := h
    refine r_get2 (kd62 rfl) (by decide) rfl g rfl ?_
    refine r_iconst (kd62 rfl) (y := 0) (by decide) rfl ?_
    obtain ⟨g, h⟩ := h
    refine r_iaload (kd62 rfl) g rfl ?_
    refine r_icmp_ge (kd62 rfl) rfl (fun c => ?_) (fun c => ?_)
    · have h := h.1 c
      refine r_aload_n (kd62 rfl) rfl rfl ?_
      refine r_iconst (kd62 rfl) (y := 1) (by decide) rfl ?_
      obtain ⟨g, h⟩ := h
      have h := h _ rfl
      refine r_put0 (kd62 rfl) (by decide) rfl g rfl ?_
      refine r_aload_n (kd62 rfl) rfl rfl ?_
      refine r_iconst (kd62 rfl) (y := 0) (by decide) rfl ?_
      obtain ⟨g, h⟩ := h
      have h := h _ rfl
      refine r_put0 (kd62 rfl) (by decide) rfl g rfl ?_
      refine r_aload_n (kd62 rfl) rfl rfl ?_
      refine r_iconst (kd62 rfl) (y := 0) (by decide) rfl ?_
      obtain ⟨g, h⟩ := h
      have h := h _ rfl
      refine r_put0 (kd62 rfl) (by decide) rfl g rfl ?_
      refine r_aload_n (kd62 rfl) rfl rfl ?_
      refine r_iconst (kd62 rfl) (y := 0) (by decide) rfl ?_
      obtain ⟨g, h⟩ := h
      have h := h _ rfl
      refine r_put0 (kd62 rfl) (by decide) rfl g rfl ?_
      refine r_aload_n (kd62 rfl) rfl rfl ?_
      refine r_iconst (kd62 rfl) (y := 0) (by decide) rfl ?_
      obtain ⟨g, h⟩ := h
      have h := h _ rfl
      refine r_put0 (kd62 rfl) (by decide) rfl g rfl ?_
      refine r_aload_n (kd62 rfl) rfl rfl ?_
      refine r_iconst (kd62 rfl) (y := 0) (by decide) rfl ?_
      obtain ⟨g, h⟩ := h
      have h := h _ rfl
      refine r_put0 (kd62 rfl) (by decide) rfl g rfl ?_
      refine r_aload_n (kd62 rfl) rfl rfl ?_
      refine r_iconst (kd62 rfl) (y := 0) (by decide) rfl ?_
      obtain ⟨g, h⟩ := h
      have h := h _ rfl
      refine r_put0 (kd62 rfl) (by decide) rfl g rfl ?_
      refine r_aload_n (kd62 rfl) rfl rfl ?_
      refine r_iconst (kd62 rfl) (y := 0) (by decide) rfl ?_
      obtain ⟨g, h⟩ := h
      have h := h _ rfl
      refine r_put0 (kd62 rfl) (by decide) rfl g rfl ?_
      refine r_aload_n (kd62 rfl) rfl rfl ?_
      refine r_iconst (kd62 rfl) (y := 0) (by decide) rfl ?_
      obtain ⟨g, h⟩ := h
      have h := h _ rfl
      refine r_put0 (kd62 rfl) (by decide) rfl g rfl ?_
      refine r_aload_n (kd62 rfl) rfl rfl ?_
      refine r_iconst (kd62 rfl) (y := 0) (by decide) rfl ?_
      obtain ⟨g, h⟩ := h
      have h := h _ rfl
      refine r_put0 (kd62 rfl) (by decide) rfl g rfl ?_
      refine r_aload_n (kd62 rfl) rfl rfl ?_
      refine r_iconst (kd62 rfl) (y := 0) (by decide) rfl ?_
      obtain ⟨g, h⟩ := h
      have h := h _ rfl
      refine r_put0 (kd62 rfl) (by decide) rfl g rfl ?_
      refine r_aload_n (kd62 rfl) rfl rfl ?_
      refine r_iconst (kd62 rfl) (y := 0) (by decide) rfl ?_
      obtain ⟨g, h⟩ := h
      have h := h _ rfl
      refine r_put0 (kd62 rfl) (by decide) rfl g rfl ?_
      refine r_aload_n (kd62 rfl) rfl rfl ?_
      refine r_iconst (kd62 rfl) (y := 0) (by decide) rfl ?_
      obtain ⟨g, h⟩ := h
      have h := h _ rfl
      refine r_put0 (kd62 rfl) (by decide) rfl g rfl ?_
      refine r_aload_n (kd62 rfl) rfl rfl ?_
      refine r_aload_n (kd62 rfl) rfl rfl ?_
      obtain ⟨g, h⟩ := h
      refine r_get0 (kd62 rfl) (by decide) rfl g rfl ?_
      obtain ⟨g, h⟩ := h
      have h := h _ rfl
      refine r_put0 (kd62 rfl) (by decide) rfl g rfl ?_
      refine r_iconst (kd62 rfl) (y := 0) (by decide) rfl ?_
      refine r_istore (kd62 rfl) L62 (by decide) rfl rfl ?_
      obtain ⟨n, h⟩ := h
      exact (b_Mod_start_123 hd n _ _ _ h).less (e_sc (List.mem_of_getElem? (i := 1) rfl) (e_sc (List.mem_of_getElem? (i := 0) rfl) e_sn))
    · have h := h.2 c
      refine r_aload_n (kd62 rfl) rfl rfl ?_
      obtain ⟨g, h⟩ := h
      refine r_get2 (kd62 rfl) (by decide) rfl g rfl ?_
      refine r_iload (kd62 rfl) rfl rfl ?_
      obtain ⟨g, h⟩ := h
      refine r_iaload (kd62 rfl) g rfl ?_
      refine r_iconst (kd62 rfl) (y := 1) (by decide) rfl ?_
      refine r_icmp_eq (kd62 rfl) rfl (fun c => ?_) (fun c => ?_)
      · have h := h.1 c
        refine r_iinc (kd62 rfl) rfl (y := 1) (by decide) L62 (by decide) rfl rfl ?_
        refine r_goto (kd62 rfl) ?_
        exact (hk17 _ _ _ h).less (e_sc (List.mem_of_getElem? (i := 1) rfl) (e_sc (List.mem_of_getElem? (i := 0) rfl) e_sn))
      · have h := h.2 c
        refine r_iconst (kd62 rfl) (y := 0) (by decide) rfl ?_
        exact r_zreturn (kd62 rfl) R62 h.1 h.2
set_option maxRecDepth 100000 in
def w_Mod_start (l0 : Nat) (l1 : Int32) (l2 : Int32) (l3 : Int32) (l4 : Int32) (M : eM) (Q : Int32 → eM → Prop) : Prop := e_ob M l0 12 ∧ ∀ M1 : eM, M1 = e_si M l0 0 0 → e_ob M1 l0 12 ∧ (¬ (gi M1 l0 7) = 0 → ∃ n2 : Nat, w_Mod_start_17 n2 l0 0 M1 Q) ∧ ((gi M1 l0 7) = 0 → ((0 : Int32) = 0 ∨ (0 : Int32) = 1) ∧ Q (0 : Int32) M1)
set_option maxRecDepth 100000 in
theorem b_Mod_start {d : Nat} {l0 : Nat} {l1 : Int32} {l2 : Int32} {l3 : Int32} {l4 : Int32} {M : eM} {Q : Int32 → eM → Prop} (hd : 0 ≤ d) (h : w_Mod_start l0 l1 l2 l3 l4 M Q) : e_CI 62 d 0 0 [.ref l0, .int l1, .int l2, .int l3, .int l4] M Q := by
  unfold w_Mod_start at h
  show e_E 62 d 0 0 0 [(0, .ref l0), (1, .int l1), (2, .int l2), (3, .int l3), (4, .int l4)] [] M (e_QI Q)
  refine r_aload_n (kd62 rfl) rfl rfl ?_
  refine r_iconst (kd62 rfl) (y := 0) (by decide) rfl ?_
  obtain ⟨g, h⟩ := h
  have h := h _ rfl
  refine r_put0 (kd62 rfl) (by decide) rfl g rfl ?_
  refine r_aload_n (kd62 rfl) rfl rfl ?_
  obtain ⟨g, h⟩ := h
  refine r_get3 (kd62 rfl) (by decide) rfl g rfl ?_
  refine r_if_ne (kd62 rfl) rfl (fun c => ?_) (fun c => ?_)
  · have h := h.1 c
    refine r_iconst (kd62 rfl) (y := 0) (by decide) rfl ?_
    refine r_istore (kd62 rfl) L62 (by decide) rfl rfl ?_
    obtain ⟨n, h⟩ := h
    exact (b_Mod_start_17 hd n _ _ _ h).less (e_sc (List.mem_of_getElem? (i := 1) rfl) (e_sc (List.mem_of_getElem? (i := 0) rfl) e_sn))
  · have h := h.2 c
    refine r_iconst (kd62 rfl) (y := 0) (by decide) rfl ?_
    exact r_zreturn (kd62 rfl) R62 h.1 h.2
