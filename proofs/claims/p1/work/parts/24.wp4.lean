/-- TierMillModel.isRef(I)Z -/
theorem kd63 {pc : Nat} {q : eI} (h : e_d63.lookup pc = some q) : e_dec 63 pc = some q := h
theorem L63 : (e_m 63).2.2.1 = 1 := rfl
theorem R63 : (e_m 63).2.2.2.1 = (some .boolean) := rfl
def w_Mod_isRef_16 (s0 : Int32) (M : eM) (Q : Int32 → eM → Prop) : Prop := (s0 = 0 ∨ s0 = 1) ∧ Q s0 M
theorem b_Mod_isRef_16 {d : Nat} {s0 : Int32} {M : eM} {Q : Int32 → eM → Prop} (hd : 0 ≤ d) (h : w_Mod_isRef_16 s0 M Q ) : e_E 63 d 0 0 16 [] [.int s0] M (e_QI Q) := by
  unfold w_Mod_isRef_16 at h
  exact r_zreturn (kd63 rfl) R63 h.1 h.2
def w_Mod_isRef_11 (M : eM) (Q : Int32 → eM → Prop) : Prop := w_Mod_isRef_16 1 M Q
theorem b_Mod_isRef_11 {d : Nat} {M : eM} {Q : Int32 → eM → Prop} (hd : 0 ≤ d) (h : w_Mod_isRef_11 M Q ) : e_E 63 d 0 0 11 [] [] M (e_QI Q) := by
  unfold w_Mod_isRef_11 at h
  refine r_iconst (kd63 rfl) (y := 1) (by decide) rfl ?_
  refine r_goto (kd63 rfl) ?_
  exact (b_Mod_isRef_16 hd h).less e_sn
def w_Mod_isRef (l0 : Int32) (M : eM) (Q : Int32 → eM → Prop) : Prop := (l0 = 2 → w_Mod_isRef_11 M Q) ∧ (¬ l0 = 2 → (l0 < 15 → w_Mod_isRef_16 0 M Q) ∧ (¬ l0 < 15 → w_Mod_isRef_11 M Q))
theorem b_Mod_isRef {d : Nat} {l0 : Int32} {M : eM} {Q : Int32 → eM → Prop} (hd : 0 ≤ d) (h : w_Mod_isRef l0 M Q) : e_CI 63 d 0 0 [.int l0] M Q := by
  unfold w_Mod_isRef at h
  show e_E 63 d 0 0 0 [(0, .int l0)] [] M (e_QI Q)
  refine r_iload_n (kd63 rfl) rfl rfl ?_
  refine r_iconst (kd63 rfl) (y := 2) (by decide) rfl ?_
  refine r_icmp_eq (kd63 rfl) rfl (fun c => ?_) (fun c => ?_)
  · have h := h.1 c
    exact (b_Mod_isRef_11 hd h).less e_sn
  · have h := h.2 c
    refine r_iload_n (kd63 rfl) rfl rfl ?_
    refine r_bipush (kd63 rfl) (y := 15) (by decide) rfl ?_
    refine r_icmp_lt (kd63 rfl) rfl (fun c => ?_) (fun c => ?_)
    · have h := h.1 c
      refine r_iconst (kd63 rfl) (y := 0) (by decide) rfl ?_
      exact (b_Mod_isRef_16 hd h).less e_sn
    · have h := h.2 c
      exact (b_Mod_isRef_11 hd h).less e_sn
/-- TierMillModel.run(I)I -/
theorem kd64 {pc : Nat} {q : eI} (h : e_d64.lookup pc = some q) : e_dec 64 pc = some q := h
theorem L64 : (e_m 64).2.2.1 = 5 := rfl
theorem R64 : (e_m 64).2.2.2.1 = (some .int) := rfl
set_option maxRecDepth 100000 in
def w_Mod_run (l0 : Nat) (l1 : Int32) (M : eM) (Q : Int32 → eM → Prop) : Prop := w_Mod_within l1 1 2000 M (fun (v2 : Int32) (M1 : eM) => (¬ v2 = 0 → e_ob M1 l0 12 ∧ ((gi M1 l0 41) = 1 → e_ob M1 l0 12 ∧ (¬ (gi M1 l0 45) = 60000 → e_ob M1 l0 12 ∧ ∀ M3 : eM, M3 = e_si M1 l0 0 0 → ((1 : Int32) = 0 → Q (0 : Int32) M3) ∧ (¬ (1 : Int32) = 0 → False)) ∧ ((gi M1 l0 45) = 60000 → e_ob M1 l0 12 ∧ w_Mod_raise l0 3 M1 (fun (v5 : Int32) (M4 : eM) => Q v5 M4))) ∧ (¬ (gi M1 l0 41) = 1 → e_ob M1 l0 12 ∧ w_Mod_raise l0 2 M1 (fun (v7 : Int32) (M6 : eM) => Q v7 M6))) ∧ (v2 = 0 → e_ob M1 l0 12 ∧ w_Mod_raise l0 1 M1 (fun (v9 : Int32) (M8 : eM) => Q v9 M8)))
set_option maxRecDepth 100000 in
theorem b_Mod_run {d : Nat} {l0 : Nat} {l1 : Int32} {M : eM} {Q : Int32 → eM → Prop} (hd : 1 ≤ d) (h : w_Mod_run l0 l1 M Q) : e_CI 64 d 0 0 [.ref l0, .int l1] M Q := by
  unfold w_Mod_run at h
  show e_E 64 d 0 0 0 [(0, .ref l0), (1, .int l1)] [] M (e_QI Q)
  refine r_iload_n (kd64 rfl) rfl rfl ?_
  refine r_iconst (kd64 rfl) (y := 1) (by decide) rfl ?_
  refine r_sipush (kd64 rfl) (y := 2000) (by decide) rfl ?_
  refine r_callSI (d' := d - 1) (by omega) (kd64 rfl) (by decide) rfl rfl rfl rfl (Nat.le_of_ble_eq_true rfl) rfl L50 (Nat.le_of_ble_eq_true rfl) (Nat.le_of_ble_eq_true rfl) (Nat.zero_le _) (Nat.zero_le _) rfl rfl rfl (b_Mod_within (by omega) h) (fun x1 M1 h => ?_)
  refine r_if_ne (kd64 rfl) rfl (fun c => ?_) (fun c => ?_)
  · have h := h.1 c
    refine r_aload_n (kd64 rfl) rfl rfl ?_
    obtain ⟨g, h⟩ := h
    refine r_get0 (kd64 rfl) (by decide) rfl g rfl ?_
    refine r_iconst (kd64 rfl) (y := 1) (by decide) rfl ?_
    refine r_icmp_eq (kd64 rfl) rfl (fun c => ?_) (fun c => ?_)
    · have h := h.1 c
      refine r_aload_n (kd64 rfl) rfl rfl ?_
      obtain ⟨g, h⟩ := h
      refine r_get0 (kd64 rfl) (by decide) rfl g rfl ?_
      refine r_ldc_w (kd64 rfl) (y := 60000) (by decide) rfl ?_
      refine r_icmp_ne (kd64 rfl) rfl (fun c => ?_) (fun c => ?_)
      · have h := h.1 c
        refine r_aload_n (kd64 rfl) rfl rfl ?_
        refine r_iconst (kd64 rfl) (y := 0) (by decide) rfl ?_
        obtain ⟨g, h⟩ := h
        have h := h _ rfl
        refine r_put0 (kd64 rfl) (by decide) rfl g rfl ?_
        refine r_iconst (kd64 rfl) (y := 0) (by decide) rfl ?_
        refine r_istore_n (kd64 rfl) L64 (by decide) rfl rfl ?_
        refine r_iconst (kd64 rfl) (y := 1) (by decide) rfl ?_
        refine r_istore_n (kd64 rfl) L64 (by decide) rfl rfl ?_
        refine r_iload_n (kd64 rfl) rfl rfl ?_
        refine r_if_eq (kd64 rfl) rfl (fun c => ?_) (fun c => ?_)
        · have h := h.1 c
          refine r_iload_n (kd64 rfl) rfl rfl ?_
          exact r_ireturn (kd64 rfl) R64 h
        · have h := h.2 c
          refine r_aload_n (kd64 rfl) rfl rfl ?_
          exact False.elim h
      · have h := h.2 c
        refine r_aload_n (kd64 rfl) rfl rfl ?_
        refine r_iconst (kd64 rfl) (y := 3) (by decide) rfl ?_
        obtain ⟨g, h⟩ := h
        refine r_callVI (d' := d - 1) (by omega) (kd64 rfl) (by decide) rfl rfl rfl rfl (Nat.le_of_ble_eq_true rfl) rfl L49 (Nat.le_of_ble_eq_true rfl) (Nat.le_of_ble_eq_true rfl) g (Nat.zero_le _) (Nat.zero_le _) rfl rfl rfl (b_Mod_raise (by omega) h) (fun x1 M1 h => ?_)
        exact r_ireturn (kd64 rfl) R64 h
    · have h := h.2 c
      refine r_aload_n (kd64 rfl) rfl rfl ?_
      refine r_iconst (kd64 rfl) (y := 2) (by decide) rfl ?_
      obtain ⟨g, h⟩ := h
      refine r_callVI (d' := d - 1) (by omega) (kd64 rfl) (by decide) rfl rfl rfl rfl (Nat.le_of_ble_eq_true rfl) rfl L49 (Nat.le_of_ble_eq_true rfl) (Nat.le_of_ble_eq_true rfl) g (Nat.zero_le _) (Nat.zero_le _) rfl rfl rfl (b_Mod_raise (by omega) h) (fun x1 M1 h => ?_)
      exact r_ireturn (kd64 rfl) R64 h
  · have h := h.2 c
    refine r_aload_n (kd64 rfl) rfl rfl ?_
    refine r_iconst (kd64 rfl) (y := 1) (by decide) rfl ?_
    obtain ⟨g, h⟩ := h
    refine r_callVI (d' := d - 1) (by omega) (kd64 rfl) (by decide) rfl rfl rfl rfl (Nat.le_of_ble_eq_true rfl) rfl L49 (Nat.le_of_ble_eq_true rfl) (Nat.le_of_ble_eq_true rfl) g (Nat.zero_le _) (Nat.zero_le _) rfl rfl rfl (b_Mod_raise (by omega) h) (fun x1 M1 h => ?_)
    exact r_ireturn (kd64 rfl) R64 h
/-- TierMillModel.state()I -/
theorem kd65 {pc : Nat} {q : eI} (h : e_d65.lookup pc = some q) : e_dec 65 pc = some q := h
theorem L65 : (e_m 65).2.2.1 = 1 := rfl
theorem R65 : (e_m 65).2.2.2.1 = (some .int) := rfl
def w_Mod_state (l0 : Nat) (M : eM) (Q : Int32 → eM → Prop) : Prop := e_ob M l0 12 ∧ ∀ M1 : eM, M1 = e_si M l0 0 0 → e_ob M1 l0 12 ∧ Q (gi M1 l0 41) M1
theorem b_Mod_state {d : Nat} {l0 : Nat} {M : eM} {Q : Int32 → eM → Prop} (hd : 0 ≤ d) (h : w_Mod_state l0 M Q) : e_CI 65 d 0 0 [.ref l0] M Q := by
  unfold w_Mod_state at h
  show e_E 65 d 0 0 0 [(0, .ref l0)] [] M (e_QI Q)
  refine r_aload_n (kd65 rfl) rfl rfl ?_
  refine r_iconst (kd65 rfl) (y := 0) (by decide) rfl ?_
  obtain ⟨g, h⟩ := h
  have h := h _ rfl
  refine r_put0 (kd65 rfl) (by decide) rfl g rfl ?_
  refine r_aload_n (kd65 rfl) rfl rfl ?_
  obtain ⟨g, h⟩ := h
  refine r_get0 (kd65 rfl) (by decide) rfl g rfl ?_
  exact r_ireturn (kd65 rfl) R65 h
/-- TierMillModel.result(I)I -/
theorem kd66 {pc : Nat} {q : eI} (h : e_d66.lookup pc = some q) : e_dec 66 pc = some q := h
theorem L66 : (e_m 66).2.2.1 = 2 := rfl
theorem R66 : (e_m 66).2.2.2.1 = (some .int) := rfl
set_option maxRecDepth 100000 in
def w_Mod_result_49 (s0 : Int32) (M : eM) (Q : Int32 → eM → Prop) : Prop := Q s0 M
set_option maxRecDepth 100000 in
theorem b_Mod_result_49 {d : Nat} {s0 : Int32} {M : eM} {Q : Int32 → eM → Prop} (hd : 0 ≤ d) (h : w_Mod_result_49 s0 M Q ) : e_E 66 d 0 0 49 [] [.int s0] M (e_QI Q) := by
  unfold w_Mod_result_49 at h
  exact r_ireturn (kd66 rfl) R66 h
set_option maxRecDepth 100000 in
def w_Mod_result_34 (l0 : Nat) (l1 : Int32) (M : eM) (Q : Int32 → eM → Prop) : Prop := (¬ l1 = 0 → e_ob M l0 12 ∧ w_Mod_result_49 (gi M l0 43) M Q) ∧ (l1 = 0 → e_ob M l0 12 ∧ w_Mod_result_49 (gi M l0 42) M Q)
set_option maxRecDepth 100000 in
theorem b_Mod_result_34 {d : Nat} {l0 : Nat} {l1 : Int32} {M : eM} {Q : Int32 → eM → Prop} (hd : 0 ≤ d) (h : w_Mod_result_34 l0 l1 M Q ) : e_E 66 d 0 0 34 [(0, .ref l0), (1, .int l1)] [] M (e_QI Q) := by
  unfold w_Mod_result_34 at h
  refine r_iload_n (kd66 rfl) rfl rfl ?_
  refine r_if_ne (kd66 rfl) rfl (fun c => ?_) (fun c => ?_)
  · have h := h.1 c
    refine r_aload_n (kd66 rfl) rfl rfl ?_
    obtain ⟨g, h⟩ := h
    refine r_get0 (kd66 rfl) (by decide) rfl g rfl ?_
    exact (b_Mod_result_49 hd h).less e_sn
  · have h := h.2 c
    refine r_aload_n (kd66 rfl) rfl rfl ?_
    obtain ⟨g, h⟩ := h
    refine r_get0 (kd66 rfl) (by decide) rfl g rfl ?_
    refine r_goto (kd66 rfl) ?_
    exact (b_Mod_result_49 hd h).less e_sn
set_option maxRecDepth 100000 in
def w_Mod_result_16 (l0 : Nat) (l1 : Int32) (M : eM) (Q : Int32 → eM → Prop) : Prop := e_ob M l0 12 ∧ ((gi M l0 41) = 2 → w_Mod_result_34 l0 l1 M Q) ∧ (¬ (gi M l0 41) = 2 → e_ob M l0 12 ∧ ((gi M l0 41) = 3 → w_Mod_result_34 l0 l1 M Q) ∧ (¬ (gi M l0 41) = 3 → Q (0 : Int32) M))
set_option maxRecDepth 100000 in
theorem b_Mod_result_16 {d : Nat} {l0 : Nat} {l1 : Int32} {M : eM} {Q : Int32 → eM → Prop} (hd : 0 ≤ d) (h : w_Mod_result_16 l0 l1 M Q ) : e_E 66 d 0 0 16 [(0, .ref l0), (1, .int l1)] [] M (e_QI Q) := by
  unfold w_Mod_result_16 at h
  refine r_aload_n (kd66 rfl) rfl rfl ?_
  obtain ⟨g, h⟩ := h
  refine r_get0 (kd66 rfl) (by decide) rfl g rfl ?_
  refine r_iconst (kd66 rfl) (y := 2) (by decide) rfl ?_
  refine r_icmp_eq (kd66 rfl) rfl (fun c => ?_) (fun c => ?_)
  · have h := h.1 c
    exact (b_Mod_result_34 hd h).less (e_sc (List.mem_of_getElem? (i := 0) rfl) (e_sc (List.mem_of_getElem? (i := 1) rfl) e_sn))
  · have h := h.2 c
    refine r_aload_n (kd66 rfl) rfl rfl ?_
    obtain ⟨g, h⟩ := h
    refine r_get0 (kd66 rfl) (by decide) rfl g rfl ?_
    refine r_iconst (kd66 rfl) (y := 3) (by decide) rfl ?_
    refine r_icmp_eq (kd66 rfl) rfl (fun c => ?_) (fun c => ?_)
    · have h := h.1 c
      exact (b_Mod_result_34 hd h).less (e_sc (List.mem_of_getElem? (i := 0) rfl) (e_sc (List.mem_of_getElem? (i := 1) rfl) e_sn))
    · have h := h.2 c
      refine r_iconst (kd66 rfl) (y := 0) (by decide) rfl ?_
      exact r_ireturn (kd66 rfl) R66 h
set_option maxRecDepth 100000 in
def w_Mod_result (l0 : Nat) (l1 : Int32) (M : eM) (Q : Int32 → eM → Prop) : Prop := e_ob M l0 12 ∧ ∀ M1 : eM, M1 = e_si M l0 0 0 → (l1 = 0 → w_Mod_result_16 l0 l1 M1 Q) ∧ (¬ l1 = 0 → (l1 = 1 → w_Mod_result_16 l0 l1 M1 Q) ∧ (¬ l1 = 1 → Q ((-1) : Int32) M1))
set_option maxRecDepth 100000 in
theorem b_Mod_result {d : Nat} {l0 : Nat} {l1 : Int32} {M : eM} {Q : Int32 → eM → Prop} (hd : 0 ≤ d) (h : w_Mod_result l0 l1 M Q) : e_CI 66 d 0 0 [.ref l0, .int l1] M Q := by
  unfold w_Mod_result at h
  show e_E 66 d 0 0 0 [(0, .ref l0), (1, .int l1)] [] M (e_QI Q)
  refine r_aload_n (kd66 rfl) rfl rfl ?_
  refine r_iconst (kd66 rfl) (y := 0) (by decide) rfl ?_
  obtain ⟨g, h⟩ := h
  have h := h _ rfl
  refine r_put0 (kd66 rfl) (by decide) rfl g rfl ?_
  refine r_iload_n (kd66 rfl) rfl rfl ?_
  refine r_if_eq (kd66 rfl) rfl (fun c => ?_) (fun c => ?_)
  · have h := h.1 c
    exact (b_Mod_result_16 hd h).less (e_sc (List.mem_of_getElem? (i := 0) rfl) (e_sc (List.mem_of_getElem? (i := 1) rfl) e_sn))
  · have h := h.2 c
    refine r_iload_n (kd66 rfl) rfl rfl ?_
    refine r_iconst (kd66 rfl) (y := 1) (by decide) rfl ?_
    refine r_icmp_eq (kd66 rfl) rfl (fun c => ?_) (fun c => ?_)
    · have h := h.1 c
      exact (b_Mod_result_16 hd h).less (e_sc (List.mem_of_getElem? (i := 0) rfl) (e_sc (List.mem_of_getElem? (i := 1) rfl) e_sn))
    · have h := h.2 c
      refine r_iconst (kd66 rfl) (y := (-1)) (by decide) rfl ?_
      exact r_ireturn (kd66 rfl) R66 h
/-- TierMillModel.output(I)I -/
theorem kd67 {pc : Nat} {q : eI} (h : e_d67.lookup pc = some q) : e_dec 67 pc = some q := h
theorem L67 : (e_m 67).2.2.1 = 2 := rfl
theorem R67 : (e_m 67).2.2.2.1 = (some .int) := rfl
set_option maxRecDepth 100000 in
def w_Mod_output_52 (s0 : Int32) (M : eM) (Q : Int32 → eM → Prop) : Prop := Q s0 M
set_option maxRecDepth 100000 in
theorem b_Mod_output_52 {d : Nat} {s0 : Int32} {M : eM} {Q : Int32 → eM → Prop} (hd : 0 ≤ d) (h : w_Mod_output_52 s0 M Q ) : e_E 67 d 0 0 52 [] [.int s0] M (e_QI Q) := by
  unfold w_Mod_output_52 at h
  exact r_ireturn (kd67 rfl) R67 h
set_option maxRecDepth 100000 in
def w_Mod_output_32 (l0 : Nat) (l1 : Int32) (s0 : Int32) (s1 : Nat) (M : eM) (Q : Int32 → eM → Prop) : Prop := e_ob M s1 12 ∧ ∀ M1 : eM, M1 = e_si M s1 0 s0 → e_ob M1 l0 12 ∧ (¬ (gi M1 l0 0) = 0 → w_Mod_output_52 0 M1 Q) ∧ ((gi M1 l0 0) = 0 → e_ob M1 l0 12 ∧ e_ai M1 (gr M1 l0 48) l1 ∧ w_Mod_output_52 (gi M1 (gr M1 l0 48) l1.toNatClampNeg) M1 Q)
set_option maxRecDepth 100000 in
theorem b_Mod_output_32 {d : Nat} {l0 : Nat} {l1 : Int32} {s0 : Int32} {s1 : Nat} {M : eM} {Q : Int32 → eM → Prop} (hd : 0 ≤ d) (h : w_Mod_output_32 l0 l1 s0 s1 M Q ) : e_E 67 d 0 0 32 [(0, .ref l0), (1, .int l1)] [.int s0, .ref s1] M (e_QI Q) := by
  unfold w_Mod_output_32 at h
  obtain ⟨g, h⟩ := h
  have h := h _ rfl
  refine r_put0 (kd67 rfl) (by decide) rfl g rfl ?_
  refine r_aload_n (kd67 rfl) rfl rfl ?_
  obtain ⟨g, h⟩ := h
  refine r_get0 (kd67 rfl) (by decide) rfl g rfl ?_
  refine r_if_ne (kd67 rfl) rfl (fun c => ?_) (fun c => ?_)
  · have h := h.1 c
    refine r_iconst (kd67 rfl) (y := 0) (by decide) rfl ?_
    exact (b_Mod_output_52 hd h).less e_sn
  · have h := h.2 c
    refine r_aload_n (kd67 rfl) rfl rfl ?_
    obtain ⟨g, h⟩ := h
    refine r_get2 (kd67 rfl) (by decide) rfl g rfl ?_
    refine r_iload_n (kd67 rfl) rfl rfl ?_
    obtain ⟨g, h⟩ := h
    refine r_iaload (kd67 rfl) g rfl ?_
    refine r_goto (kd67 rfl) ?_
    exact (b_Mod_output_52 hd h).less e_sn
set_option maxRecDepth 100000 in
def w_Mod_output_31 (l0 : Nat) (l1 : Int32) (s0 : Nat) (M : eM) (Q : Int32 → eM → Prop) : Prop := w_Mod_output_32 l0 l1 1 s0 M Q
set_option maxRecDepth 100000 in
theorem b_Mod_output_31 {d : Nat} {l0 : Nat} {l1 : Int32} {s0 : Nat} {M : eM} {Q : Int32 → eM → Prop} (hd : 0 ≤ d) (h : w_Mod_output_31 l0 l1 s0 M Q ) : e_E 67 d 0 0 31 [(0, .ref l0), (1, .int l1)] [.ref s0] M (e_QI Q) := by
  unfold w_Mod_output_31 at h
  refine r_iconst (kd67 rfl) (y := 1) (by decide) rfl ?_
  exact (b_Mod_output_32 hd h).less (e_sc (List.mem_of_getElem? (i := 0) rfl) (e_sc (List.mem_of_getElem? (i := 1) rfl) e_sn))
set_option maxRecDepth 100000 in
def w_Mod_output (l0 : Nat) (l1 : Int32) (M : eM) (Q : Int32 → eM → Prop) : Prop := e_ob M l0 12 ∧ ((gi M l0 41) = 0 → w_Mod_output_31 l0 l1 l0 M Q) ∧ (¬ (gi M l0 41) = 0 → (l1 < 0 → w_Mod_output_31 l0 l1 l0 M Q) ∧ (¬ l1 < 0 → e_ob M l0 12 ∧ ((gi M l0 47) ≤ l1 → w_Mod_output_31 l0 l1 l0 M Q) ∧ (¬ (gi M l0 47) ≤ l1 → (500 ≤ l1 → w_Mod_output_31 l0 l1 l0 M Q) ∧ (¬ 500 ≤ l1 → w_Mod_output_32 l0 l1 0 l0 M Q))))
set_option maxRecDepth 100000 in
theorem b_Mod_output {d : Nat} {l0 : Nat} {l1 : Int32} {M : eM} {Q : Int32 → eM → Prop} (hd : 0 ≤ d) (h : w_Mod_output l0 l1 M Q) : e_CI 67 d 0 0 [.ref l0, .int l1] M Q := by
  unfold w_Mod_output at h
  show e_E 67 d 0 0 0 [(0, .ref l0), (1, .int l1)] [] M (e_QI Q)
  refine r_aload_n (kd67 rfl) rfl rfl ?_
  refine r_aload_n (kd67 rfl) rfl rfl ?_
  obtain ⟨g, h⟩ := h
  refine r_get0 (kd67 rfl) (by decide) rfl g rfl ?_
  refine r_if_eq (kd67 rfl) rfl (fun c => ?_) (fun c => ?_)
  · have h := h.1 c
    exact (b_Mod_output_31 hd h).less (e_sc (List.mem_of_getElem? (i := 0) rfl) (e_sc (List.mem_of_getElem? (i := 1) rfl) e_sn))
  · have h := h.2 c
    refine r_iload_n (kd67 rfl) rfl rfl ?_
    refine r_if_lt (kd67 rfl) rfl (fun c => ?_) (fun c => ?_)
    · have h := h.1 c
      exact (b_Mod_output_31 hd h).less (e_sc (List.mem_of_getElem? (i := 0) rfl) (e_sc (List.mem_of_getElem? (i := 1) rfl) e_sn))
    · have h := h.2 c
      refine r_iload_n (kd67 rfl) rfl rfl ?_
      refine r_aload_n (kd67 rfl) rfl rfl ?_
      obtain ⟨g, h⟩ := h
      refine r_get0 (kd67 rfl) (by decide) rfl g rfl ?_
      refine r_icmp_ge (kd67 rfl) rfl (fun c => ?_) (fun c => ?_)
      · have h := h.1 c
        exact (b_Mod_output_31 hd h).less (e_sc (List.mem_of_getElem? (i := 0) rfl) (e_sc (List.mem_of_getElem? (i := 1) rfl) e_sn))
      · have h := h.2 c
        refine r_iload_n (kd67 rfl) rfl rfl ?_
        refine r_sipush (kd67 rfl) (y := 500) (by decide) rfl ?_
        refine r_icmp_ge (kd67 rfl) rfl (fun c => ?_) (fun c => ?_)
        · have h := h.1 c
          exact (b_Mod_output_31 hd h).less (e_sc (List.mem_of_getElem? (i := 0) rfl) (e_sc (List.mem_of_getElem? (i := 1) rfl) e_sn))
        · have h := h.2 c
          refine r_iconst (kd67 rfl) (y := 0) (by decide) rfl ?_
          refine r_goto (kd67 rfl) ?_
          exact (b_Mod_output_32 hd h).less (e_sc (List.mem_of_getElem? (i := 0) rfl) (e_sc (List.mem_of_getElem? (i := 1) rfl) e_sn))
/-- TierMillModel.frameOf(I)I -/
theorem kd68 {pc : Nat} {q : eI} (h : e_d68.lookup pc = some q) : e_dec 68 pc = some q := h
theorem L68 : (e_m 68).2.2.1 = 2 := rfl
theorem R68 : (e_m 68).2.2.2.1 = (some .int) := rfl
def w_Mod_frameOf_33 (s0 : Int32) (M : eM) (Q : Int32 → eM → Prop) : Prop := Q s0 M
theorem b_Mod_frameOf_33 {d : Nat} {s0 : Int32} {M : eM} {Q : Int32 → eM → Prop} (hd : 1 ≤ d) (h : w_Mod_frameOf_33 s0 M Q ) : e_E 68 d 0 0 33 [] [.int s0] M (e_QI Q) := by
  unfold w_Mod_frameOf_33 at h
  exact r_ireturn (kd68 rfl) R68 h
def w_Mod_frameOf_21 (M : eM) (Q : Int32 → eM → Prop) : Prop := w_Mod_frameOf_33 (-1) M Q
theorem b_Mod_frameOf_21 {d : Nat} {M : eM} {Q : Int32 → eM → Prop} (hd : 1 ≤ d) (h : w_Mod_frameOf_21 M Q ) : e_E 68 d 0 0 21 [] [] M (e_QI Q) := by
  unfold w_Mod_frameOf_21 at h
  refine r_iconst (kd68 rfl) (y := (-1)) (by decide) rfl ?_
  refine r_goto (kd68 rfl) ?_
  exact (b_Mod_frameOf_33 hd h).less e_sn
def w_Mod_frameOf (l0 : Nat) (l1 : Int32) (M : eM) (Q : Int32 → eM → Prop) : Prop := e_ob M l0 12 ∧ ((gi M l0 41) = 0 → w_Mod_frameOf_21 M Q) ∧ (¬ (gi M l0 41) = 0 → e_ob M l0 12 ∧ w_Mod_within l1 0 ((gi M l0 60) - 1) M (fun (v2 : Int32) (M1 : eM) => (¬ v2 = 0 → e_ob M1 l0 12 ∧ w_Mod_frameOf_33 (((gi M1 l0 60) - 1) - l1) M1 Q) ∧ (v2 = 0 → w_Mod_frameOf_21 M1 Q)))
theorem b_Mod_frameOf {d : Nat} {l0 : Nat} {l1 : Int32} {M : eM} {Q : Int32 → eM → Prop} (hd : 1 ≤ d) (h : w_Mod_frameOf l0 l1 M Q) : e_CI 68 d 0 0 [.ref l0, .int l1] M Q := by
  unfold w_Mod_frameOf at h
  show e_E 68 d 0 0 0 [(0, .ref l0), (1, .int l1)] [] M (e_QI Q)
  refine r_aload_n (kd68 rfl) rfl rfl ?_
  obtain ⟨g, h⟩ := h
  refine r_get0 (kd68 rfl) (by decide) rfl g rfl ?_
  refine r_if_eq (kd68 rfl) rfl (fun c => ?_) (fun c => ?_)
  · have h := h.1 c
    exact (b_Mod_frameOf_21 hd h).less e_sn
  · have h := h.2 c
    refine r_iload_n (kd68 rfl) rfl rfl ?_
    refine r_iconst (kd68 rfl) (y := 0) (by decide) rfl ?_
    refine r_aload_n (kd68 rfl) rfl rfl ?_
    obtain ⟨g, h⟩ := h
    refine r_get0 (kd68 rfl) (by decide) rfl g rfl ?_
    refine r_iconst (kd68 rfl) (y := 1) (by decide) rfl ?_
    refine r_isub (kd68 rfl) rfl ?_
    refine r_callSI (d' := d - 1) (by omega) (kd68 rfl) (by decide) rfl rfl rfl rfl (Nat.le_of_ble_eq_true rfl) rfl L50 (Nat.le_of_ble_eq_true rfl) (Nat.le_of_ble_eq_true rfl) (Nat.zero_le _) (Nat.zero_le _) rfl rfl rfl (b_Mod_within (by omega) h) (fun x1 M1 h => ?_)
    refine r_if_ne (kd68 rfl) rfl (fun c => ?_) (fun c => ?_)
    · have h := h.1 c
      refine r_aload_n (kd68 rfl) rfl rfl ?_
      obtain ⟨g, h⟩ := h
      refine r_get0 (kd68 rfl) (by decide) rfl g rfl ?_
      refine r_iconst (kd68 rfl) (y := 1) (by decide) rfl ?_
      refine r_isub (kd68 rfl) rfl ?_
      refine r_iload_n (kd68 rfl) rfl rfl ?_
      refine r_isub (kd68 rfl) rfl ?_
      exact (b_Mod_frameOf_33 hd h).less e_sn
    · have h := h.2 c
      exact (b_Mod_frameOf_21 hd h).less e_sn
/-- TierMillModel.frame(II)I -/
theorem kd69 {pc : Nat} {q : eI} (h : e_d69.lookup pc = some q) : e_dec 69 pc = some q := h
theorem L69 : (e_m 69).2.2.1 = 4 := rfl
theorem R69 : (e_m 69).2.2.2.1 = (some .int) := rfl
set_option maxRecDepth 100000 in
def w_Mod_frame (l0 : Nat) (l1 : Int32) (l2 : Int32) (M : eM) (Q : Int32 → eM → Prop) : Prop := e_ob M l0 12 ∧ ∀ M1 : eM, M1 = e_si M l0 0 0 → e_ob M1 l0 12 ∧ w_Mod_frameOf l0 l1 M1 (fun (v3 : Int32) (M2 : eM) => (¬ v3 = (-1) → (l2 = 0 → e_ob M2 l0 12 ∧ e_ai M2 (gr M2 l0 61) v3 ∧ Q (gi M2 (gr M2 l0 61) v3.toNatClampNeg) M2) ∧ (¬ l2 = 0 → (l2 = 1 → e_ob M2 l0 12 ∧ e_ai M2 (gr M2 l0 62) v3 ∧ Q (gi M2 (gr M2 l0 62) v3.toNatClampNeg) M2) ∧ (¬ l2 = 1 → (l2 = 2 → e_ob M2 l0 12 ∧ e_ai M2 (gr M2 l0 64) v3 ∧ Q (gi M2 (gr M2 l0 64) v3.toNatClampNeg) M2) ∧ (¬ l2 = 2 → (l2 = 3 → e_ob M2 l0 12 ∧ e_ai M2 (gr M2 l0 67) v3 ∧ Q (gi M2 (gr M2 l0 67) v3.toNatClampNeg) M2) ∧ (¬ l2 = 3 → Q ((-1) : Int32) M2))))) ∧ (v3 = (-1) → Q ((-1) : Int32) M2))
set_option maxRecDepth 100000 in
theorem b_Mod_frame {d : Nat} {l0 : Nat} {l1 : Int32} {l2 : Int32} {M : eM} {Q : Int32 → eM → Prop} (hd : 2 ≤ d) (h : w_Mod_frame l0 l1 l2 M Q) : e_CI 69 d 0 0 [.ref l0, .int l1, .int l2] M Q := by
  unfold w_Mod_frame at h
  show e_E 69 d 0 0 0 [(0, .ref l0), (1, .int l1), (2, .int l2)] [] M (e_QI Q)
  refine r_aload_n (kd69 rfl) rfl rfl ?_
  refine r_iconst (kd69 rfl) (y := 0) (by decide) rfl ?_
  obtain ⟨g, h⟩ := h
  have h := h _ rfl
  refine r_put0 (kd69 rfl) (by decide) rfl g rfl ?_
  refine r_aload_n (kd69 rfl) rfl rfl ?_
  refine r_iload_n (kd69 rfl) rfl rfl ?_
  obtain ⟨g, h⟩ := h
  refine r_callVI (d' := d - 1) (by omega) (kd69 rfl) (by decide) rfl rfl rfl rfl (Nat.le_of_ble_eq_true rfl) rfl L68 (Nat.le_of_ble_eq_true rfl) (Nat.le_of_ble_eq_true rfl) g (Nat.zero_le _) (Nat.zero_le _) rfl rfl rfl (b_Mod_frameOf (by omega) h) (fun x1 M1 h => ?_)
  refine r_istore_n (kd69 rfl) L69 (by decide) rfl rfl ?_
  refine r_iload_n (kd69 rfl) rfl rfl ?_
  refine r_iconst (kd69 rfl) (y := (-1)) (by decide) rfl ?_
  refine r_icmp_ne (kd69 rfl) rfl (fun c => ?_) (fun c => ?_)
  · have h := h.1 c
    refine r_iload_n (kd69 rfl) rfl rfl ?_
    refine r_tableswitch (kd69 rfl) (u := 76) (qs := [(0, 48), (1, 55), (2, 62), (3, 69)]) rfl rfl rfl (by decide) ?_
    refine ⟨fun c => ?_, fun c => ?_⟩
    · have h := h.1 c
      refine r_aload_n (kd69 rfl) rfl rfl ?_
      obtain ⟨g, h⟩ := h
      refine r_get2 (kd69 rfl) (by decide) rfl g rfl ?_
      refine r_iload_n (kd69 rfl) rfl rfl ?_
      obtain ⟨g, h⟩ := h
      refine r_iaload (kd69 rfl) g rfl ?_
      exact r_ireturn (kd69 rfl) R69 h
    have h := h.2 c
    refine ⟨fun c => ?_, fun c => ?_⟩
    · have h := h.1 c
      refine r_aload_n (kd69 rfl) rfl rfl ?_
      obtain ⟨g, h⟩ := h
      refine r_get2 (kd69 rfl) (by decide) rfl g rfl ?_
      refine r_iload_n (kd69 rfl) rfl rfl ?_
      obtain ⟨g, h⟩ := h
      refine r_iaload (kd69 rfl) g rfl ?_
      exact r_ireturn (kd69 rfl) R69 h
    have h := h.2 c
    refine ⟨fun c => ?_, fun c => ?_⟩
    · have h := h.1 c
      refine r_aload_n (kd69 rfl) rfl rfl ?_
      obtain ⟨g, h⟩ := h
      refine r_get2 (kd69 rfl) (by decide) rfl g rfl ?_
      refine r_iload_n (kd69 rfl) rfl rfl ?_
      obtain ⟨g, h⟩ := h
      refine r_iaload (kd69 rfl) g rfl ?_
      exact r_ireturn (kd69 rfl) R69 h
    have h := h.2 c
    refine ⟨fun c => ?_, fun c => ?_⟩
    · have h := h.1 c
      refine r_aload_n (kd69 rfl) rfl rfl ?_
      obtain ⟨g, h⟩ := h
      refine r_get2 (kd69 rfl) (by decide) rfl g rfl ?_
      refine r_iload_n (kd69 rfl) rfl rfl ?_
      obtain ⟨g, h⟩ := h
      refine r_iaload (kd69 rfl) g rfl ?_
      exact r_ireturn (kd69 rfl) R69 h
    have h := h.2 c
    show e_E 69 _ _ _ 76 _ _ _ _
    refine r_iconst (kd69 rfl) (y := (-1)) (by decide) rfl ?_
    exact r_ireturn (kd69 rfl) R69 h
  · have h := h.2 c
    refine r_iconst (kd69 rfl) (y := (-1)) (by decide) rfl ?_
    exact r_ireturn (kd69 rfl) R69 h
/-- TierMillModel.find(II)V -/
theorem kd70 {pc : Nat} {q : eI} (h : e_d70.lookup pc = some q) : e_dec 70 pc = some q := h
theorem L70 : (e_m 70).2.2.1 = 5 := rfl
theorem R70 : (e_m 70).2.2.2.1 = none := rfl
set_option maxRecDepth 100000 in
def w_Mod_find (l0 : Nat) (l1 : Int32) (l2 : Int32) (M : eM) (Q : eM → Prop) : Prop := e_ob M l0 12 ∧ w_Mod_frameOf l0 l1 M (fun (v2 : Int32) (M1 : eM) => e_ob M1 l0 12 ∧ ∀ M3 : eM, M3 = e_si M1 l0 90 0 → (¬ v2 = (-1) → False) ∧ (v2 = (-1) → Q M3))
set_option maxRecDepth 100000 in
theorem b_Mod_find {d : Nat} {l0 : Nat} {l1 : Int32} {l2 : Int32} {M : eM} {Q : eM → Prop} (hd : 2 ≤ d) (h : w_Mod_find l0 l1 l2 M Q) : e_CV 70 d 0 0 [.ref l0, .int l1, .int l2] M Q := by
  unfold w_Mod_find at h
  show e_E 70 d 0 0 0 [(0, .ref l0), (1, .int l1), (2, .int l2)] [] M (e_QV Q)
  refine r_aload_n (kd70 rfl) rfl rfl ?_
  refine r_iload_n (kd70 rfl) rfl rfl ?_
  obtain ⟨g, h⟩ := h
  refine r_callVI (d' := d - 1) (by omega) (kd70 rfl) (by decide) rfl rfl rfl rfl (Nat.le_of_ble_eq_true rfl) rfl L68 (Nat.le_of_ble_eq_true rfl) (Nat.le_of_ble_eq_true rfl) g (Nat.zero_le _) (Nat.zero_le _) rfl rfl rfl (b_Mod_frameOf (by omega) h) (fun x1 M1 h => ?_)
  refine r_istore_n (kd70 rfl) L70 (by decide) rfl rfl ?_
  refine r_aload_n (kd70 rfl) rfl rfl ?_
  refine r_iconst (kd70 rfl) (y := 0) (by decide) rfl ?_
  obtain ⟨g, h⟩ := h
  have h := h _ rfl
  refine r_put0 (kd70 rfl) (by decide) rfl g rfl ?_
  refine r_iload_n (kd70 rfl) rfl rfl ?_
  refine r_iconst (kd70 rfl) (y := (-1)) (by decide) rfl ?_
  refine r_icmp_ne (kd70 rfl) rfl (fun c => ?_) (fun c => ?_)
  · have h := h.1 c
    refine r_bipush (kd70 rfl) (y := 16) (by decide) rfl ?_
    refine r_aload_n (kd70 rfl) rfl rfl ?_
    refine r_iload_n (kd70 rfl) rfl rfl ?_
    exact False.elim h
  · have h := h.2 c
    exact r_return (kd70 rfl) R70 h
/-- TierMillModel.local(II)I -/
theorem kd71 {pc : Nat} {q : eI} (h : e_d71.lookup pc = some q) : e_dec 71 pc = some q := h
theorem L71 : (e_m 71).2.2.1 = 3 := rfl
theorem R71 : (e_m 71).2.2.2.1 = (some .int) := rfl
def w_Mod_local_37 (s0 : Int32) (M : eM) (Q : Int32 → eM → Prop) : Prop := Q s0 M
theorem b_Mod_local_37 {d : Nat} {s0 : Int32} {M : eM} {Q : Int32 → eM → Prop} (hd : 3 ≤ d) (h : w_Mod_local_37 s0 M Q ) : e_E 71 d 0 0 37 [] [.int s0] M (e_QI Q) := by
  unfold w_Mod_local_37 at h
  exact r_ireturn (kd71 rfl) R71 h
def w_Mod_local_19 (l0 : Nat) (s0 : Int32) (s1 : Nat) (M : eM) (Q : Int32 → eM → Prop) : Prop := e_ob M s1 12 ∧ ∀ M2 : eM, M2 = e_si M s1 0 s0 → e_ob M2 l0 12 ∧ (¬ (gi M2 l0 0) = 0 → w_Mod_local_37 0 M2 Q) ∧ ((gi M2 l0 0) = 0 → e_ob M2 l0 12 ∧ w_Mod_local_37 (gi M2 l0 91) M2 Q)
theorem b_Mod_local_19 {d : Nat} {l0 : Nat} {s0 : Int32} {s1 : Nat} {M : eM} {Q : Int32 → eM → Prop} (hd : 3 ≤ d) (h : w_Mod_local_19 l0 s0 s1 M Q ) : e_E 71 d 0 0 19 [(0, .ref l0)] [.int s0, .ref s1] M (e_QI Q) := by
  unfold w_Mod_local_19 at h
  obtain ⟨g, h⟩ := h
  have h := h _ rfl
  refine r_put0 (kd71 rfl) (by decide) rfl g rfl ?_
  refine r_aload_n (kd71 rfl) rfl rfl ?_
  obtain ⟨g, h⟩ := h
  refine r_get0 (kd71 rfl) (by decide) rfl g rfl ?_
  refine r_if_ne (kd71 rfl) rfl (fun c => ?_) (fun c => ?_)
  · have h := h.1 c
    refine r_iconst (kd71 rfl) (y := 0) (by decide) rfl ?_
    exact (b_Mod_local_37 hd h).less e_sn
  · have h := h.2 c
    refine r_aload_n (kd71 rfl) rfl rfl ?_
    obtain ⟨g, h⟩ := h
    refine r_get0 (kd71 rfl) (by decide) rfl g rfl ?_
    refine r_goto (kd71 rfl) ?_
    exact (b_Mod_local_37 hd h).less e_sn
def w_Mod_local (l0 : Nat) (l1 : Int32) (l2 : Int32) (M : eM) (Q : Int32 → eM → Prop) : Prop := e_ob M l0 12 ∧ w_Mod_find l0 l1 l2 M (fun (M1 : eM) => e_ob M1 l0 12 ∧ (¬ (gi M1 l0 90) = 0 → w_Mod_local_19 l0 0 l0 M1 Q) ∧ ((gi M1 l0 90) = 0 → w_Mod_local_19 l0 1 l0 M1 Q))
theorem b_Mod_local {d : Nat} {l0 : Nat} {l1 : Int32} {l2 : Int32} {M : eM} {Q : Int32 → eM → Prop} (hd : 3 ≤ d) (h : w_Mod_local l0 l1 l2 M Q) : e_CI 71 d 0 0 [.ref l0, .int l1, .int l2] M Q := by
  unfold w_Mod_local at h
  show e_E 71 d 0 0 0 [(0, .ref l0), (1, .int l1), (2, .int l2)] [] M (e_QI Q)
  refine r_aload_n (kd71 rfl) rfl rfl ?_
  refine r_iload_n (kd71 rfl) rfl rfl ?_
  refine r_iload_n (kd71 rfl) rfl rfl ?_
  obtain ⟨g, h⟩ := h
  refine r_callVV (d' := d - 1) (by omega) (kd71 rfl) (by decide) rfl rfl rfl rfl (Nat.le_of_ble_eq_true rfl) rfl L70 (Nat.le_of_ble_eq_true rfl) (Nat.le_of_ble_eq_true rfl) g (Nat.zero_le _) (Nat.zero_le _) rfl rfl rfl (b_Mod_find (by omega) h) (fun M1 h => ?_)
  refine r_aload_n (kd71 rfl) rfl rfl ?_
  refine r_aload_n (kd71 rfl) rfl rfl ?_
  obtain ⟨g, h⟩ := h
  refine r_get0 (kd71 rfl) (by decide) rfl g rfl ?_
  refine r_if_ne (kd71 rfl) rfl (fun c => ?_) (fun c => ?_)
  · have h := h.1 c
    refine r_iconst (kd71 rfl) (y := 0) (by decide) rfl ?_
    exact (b_Mod_local_19 hd h).less (e_sc (List.mem_of_getElem? (i := 0) rfl) e_sn)
  · have h := h.2 c
    refine r_iconst (kd71 rfl) (y := 1) (by decide) rfl ?_
    refine r_goto (kd71 rfl) ?_
    exact (b_Mod_local_19 hd h).less (e_sc (List.mem_of_getElem? (i := 0) rfl) e_sn)
/-- TierMillModel.part(III)I -/
theorem kd72 {pc : Nat} {q : eI} (h : e_d72.lookup pc = some q) : e_dec 72 pc = some q := h
theorem L72 : (e_m 72).2.2.1 = 5 := rfl
theorem R72 : (e_m 72).2.2.2.1 = (some .int) := rfl
set_option maxRecDepth 100000 in
def w_Mod_part_32 (M : eM) (Q : Int32 → eM → Prop) : Prop := Q (0 : Int32) M
set_option maxRecDepth 100000 in
theorem b_Mod_part_32 {d : Nat} {M : eM} {Q : Int32 → eM → Prop} (hd : 3 ≤ d) (h : w_Mod_part_32 M Q ) : e_E 72 d 0 0 32 [] [] M (e_QI Q) := by
  unfold w_Mod_part_32 at h
  refine r_iconst (kd72 rfl) (y := 0) (by decide) rfl ?_
  exact r_ireturn (kd72 rfl) R72 h
set_option maxRecDepth 100000 in
def w_Mod_part (l0 : Nat) (l1 : Int32) (l2 : Int32) (l3 : Int32) (M : eM) (Q : Int32 → eM → Prop) : Prop := e_ob M l0 12 ∧ w_Mod_find l0 l1 l2 M (fun (M1 : eM) => e_ob M1 l0 12 ∧ ∀ M2 : eM, M2 = e_si M1 l0 0 1 → e_ob M2 l0 12 ∧ w_Mod_isRef (gi M2 l0 90) M2 (fun (v4 : Int32) (M3 : eM) => (v4 = 0 → w_Mod_part_32 M3 Q) ∧ (¬ v4 = 0 → e_ob M3 l0 12 ∧ ((gi M3 l0 91) = 0 → w_Mod_part_32 M3 Q) ∧ (¬ (gi M3 l0 91) = 0 → (0 ≤ l3 → e_ob M3 l0 12 ∧ False) ∧ (¬ 0 ≤ l3 → w_Mod_part_32 M3 Q)))))
set_option maxRecDepth 100000 in
theorem b_Mod_part {d : Nat} {l0 : Nat} {l1 : Int32} {l2 : Int32} {l3 : Int32} {M : eM} {Q : Int32 → eM → Prop} (hd : 3 ≤ d) (h : w_Mod_part l0 l1 l2 l3 M Q) : e_CI 72 d 0 0 [.ref l0, .int l1, .int l2, .int l3] M Q := by
  unfold w_Mod_part at h
  show e_E 72 d 0 0 0 [(0, .ref l0), (1, .int l1), (2, .int l2), (3, .int l3)] [] M (e_QI Q)
  refine r_aload_n (kd72 rfl) rfl rfl ?_
  refine r_iload_n (kd72 rfl) rfl rfl ?_
  refine r_iload_n (kd72 rfl) rfl rfl ?_
  obtain ⟨g, h⟩ := h
  refine r_callVV (d' := d - 1) (by omega) (kd72 rfl) (by decide) rfl rfl rfl rfl (Nat.le_of_ble_eq_true rfl) rfl L70 (Nat.le_of_ble_eq_true rfl) (Nat.le_of_ble_eq_true rfl) g (Nat.zero_le _) (Nat.zero_le _) rfl rfl rfl (b_Mod_find (by omega) h) (fun M1 h => ?_)
  refine r_aload_n (kd72 rfl) rfl rfl ?_
  refine r_iconst (kd72 rfl) (y := 1) (by decide) rfl ?_
  obtain ⟨g, h⟩ := h
  have h := h _ rfl
  refine r_put0 (kd72 rfl) (by decide) rfl g rfl ?_
  refine r_aload_n (kd72 rfl) rfl rfl ?_
  obtain ⟨g, h⟩ := h
  refine r_get0 (kd72 rfl) (by decide) rfl g rfl ?_
  refine r_callSI (d' := d - 1) (by omega) (kd72 rfl) (by decide) rfl rfl rfl rfl (Nat.le_of_ble_eq_true rfl) rfl L63 (Nat.le_of_ble_eq_true rfl) (Nat.le_of_ble_eq_true rfl) (Nat.zero_le _) (Nat.zero_le _) rfl rfl rfl (b_Mod_isRef (by omega) h) (fun x1 M1 h => ?_)
  refine r_if_eq (kd72 rfl) rfl (fun c => ?_) (fun c => ?_)
  · have h := h.1 c
    exact (b_Mod_part_32 hd h).less e_sn
  · have h := h.2 c
    refine r_aload_n (kd72 rfl) rfl rfl ?_
    obtain ⟨g, h⟩ := h
    refine r_get0 (kd72 rfl) (by decide) rfl g rfl ?_
    refine r_if_eq (kd72 rfl) rfl (fun c => ?_) (fun c => ?_)
    · have h := h.1 c
      exact (b_Mod_part_32 hd h).less e_sn
    · have h := h.2 c
      refine r_iload_n (kd72 rfl) rfl rfl ?_
      refine r_if_ge (kd72 rfl) rfl (fun c => ?_) (fun c => ?_)
      · have h := h.1 c
        refine r_aload_n (kd72 rfl) rfl rfl ?_
        refine r_aload_n (kd72 rfl) rfl rfl ?_
        obtain ⟨g, h⟩ := h
        refine r_get0 (kd72 rfl) (by decide) rfl g rfl ?_
        exact False.elim h
      · have h := h.2 c
        exact (b_Mod_part_32 hd h).less e_sn
/-- TierMillModel.isMethod(I)Z -/
theorem kd73 {pc : Nat} {q : eI} (h : e_d73.lookup pc = some q) : e_dec 73 pc = some q := h
theorem L73 : (e_m 73).2.2.1 = 2 := rfl
theorem R73 : (e_m 73).2.2.2.1 = (some .boolean) := rfl
def w_Mod_isMethod_26 (s0 : Int32) (M : eM) (Q : Int32 → eM → Prop) : Prop := (s0 = 0 ∨ s0 = 1) ∧ Q s0 M
theorem b_Mod_isMethod_26 {d : Nat} {s0 : Int32} {M : eM} {Q : Int32 → eM → Prop} (hd : 1 ≤ d) (h : w_Mod_isMethod_26 s0 M Q ) : e_E 73 d 0 0 26 [] [.int s0] M (e_QI Q) := by
  unfold w_Mod_isMethod_26 at h
  exact r_zreturn (kd73 rfl) R73 h.1 h.2
def w_Mod_isMethod_25 (M : eM) (Q : Int32 → eM → Prop) : Prop := w_Mod_isMethod_26 0 M Q
theorem b_Mod_isMethod_25 {d : Nat} {M : eM} {Q : Int32 → eM → Prop} (hd : 1 ≤ d) (h : w_Mod_isMethod_25 M Q ) : e_E 73 d 0 0 25 [] [] M (e_QI Q) := by
  unfold w_Mod_isMethod_25 at h
  refine r_iconst (kd73 rfl) (y := 0) (by decide) rfl ?_
  exact (b_Mod_isMethod_26 hd h).less e_sn
def w_Mod_isMethod (l0 : Nat) (l1 : Int32) (M : eM) (Q : Int32 → eM → Prop) : Prop := e_ob M l0 12 ∧ ((gi M l0 7) = 0 → w_Mod_isMethod_25 M Q) ∧ (¬ (gi M l0 7) = 0 → e_ob M l0 12 ∧ w_Mod_within l1 0 ((gi M l0 19) - 1) M (fun (v2 : Int32) (M1 : eM) => (v2 = 0 → w_Mod_isMethod_25 M1 Q) ∧ (¬ v2 = 0 → w_Mod_isMethod_26 1 M1 Q)))
theorem b_Mod_isMethod {d : Nat} {l0 : Nat} {l1 : Int32} {M : eM} {Q : Int32 → eM → Prop} (hd : 1 ≤ d) (h : w_Mod_isMethod l0 l1 M Q) : e_CI 73 d 0 0 [.ref l0, .int l1] M Q := by
  unfold w_Mod_isMethod at h
  show e_E 73 d 0 0 0 [(0, .ref l0), (1, .int l1)] [] M (e_QI Q)
  refine r_aload_n (kd73 rfl) rfl rfl ?_
  obtain ⟨g, h⟩ := h
  refine r_get3 (kd73 rfl) (by decide) rfl g rfl ?_
  refine r_if_eq (kd73 rfl) rfl (fun c => ?_) (fun c => ?_)
  · have h := h.1 c
    exact (b_Mod_isMethod_25 hd h).less e_sn
  · have h := h.2 c
    refine r_iload_n (kd73 rfl) rfl rfl ?_
    refine r_iconst (kd73 rfl) (y := 0) (by decide) rfl ?_
    refine r_aload_n (kd73 rfl) rfl rfl ?_
    obtain ⟨g, h⟩ := h
    refine r_get0 (kd73 rfl) (by decide) rfl g rfl ?_
    refine r_iconst (kd73 rfl) (y := 1) (by decide) rfl ?_
    refine r_isub (kd73 rfl) rfl ?_
    refine r_callSI (d' := d - 1) (by omega) (kd73 rfl) (by decide) rfl rfl rfl rfl (Nat.le_of_ble_eq_true rfl) rfl L50 (Nat.le_of_ble_eq_true rfl) (Nat.le_of_ble_eq_true rfl) (Nat.zero_le _) (Nat.zero_le _) rfl rfl rfl (b_Mod_within (by omega) h) (fun x1 M1 h => ?_)
    refine r_if_eq (kd73 rfl) rfl (fun c => ?_) (fun c => ?_)
    · have h := h.1 c
      exact (b_Mod_isMethod_25 hd h).less e_sn
    · have h := h.2 c
      refine r_iconst (kd73 rfl) (y := 1) (by decide) rfl ?_
      refine r_goto (kd73 rfl) ?_
      exact (b_Mod_isMethod_26 hd h).less e_sn
/-- TierMillModel.method(II)I -/
theorem kd74 {pc : Nat} {q : eI} (h : e_d74.lookup pc = some q) : e_dec 74 pc = some q := h
theorem L74 : (e_m 74).2.2.1 = 3 := rfl
theorem R74 : (e_m 74).2.2.2.1 = (some .int) := rfl
set_option maxRecDepth 100000 in
def w_Mod_method_22 (M : eM) (Q : Int32 → eM → Prop) : Prop := Q ((-1) : Int32) M
set_option maxRecDepth 100000 in
theorem b_Mod_method_22 {d : Nat} {M : eM} {Q : Int32 → eM → Prop} (hd : 2 ≤ d) (h : w_Mod_method_22 M Q ) : e_E 74 d 0 0 22 [] [] M (e_QI Q) := by
  unfold w_Mod_method_22 at h
  refine r_iconst (kd74 rfl) (y := (-1)) (by decide) rfl ?_
  exact r_ireturn (kd74 rfl) R74 h
set_option maxRecDepth 100000 in
def w_Mod_method_78 (s0 : Int32) (M : eM) (Q : Int32 → eM → Prop) : Prop := Q s0 M
set_option maxRecDepth 100000 in
theorem b_Mod_method_78 {d : Nat} {s0 : Int32} {M : eM} {Q : Int32 → eM → Prop} (hd : 2 ≤ d) (h : w_Mod_method_78 s0 M Q ) : e_E 74 d 0 0 78 [] [.int s0] M (e_QI Q) := by
  unfold w_Mod_method_78 at h
  exact r_ireturn (kd74 rfl) R74 h
set_option maxRecDepth 100000 in
def w_Mod_method (l0 : Nat) (l1 : Int32) (l2 : Int32) (M : eM) (Q : Int32 → eM → Prop) : Prop := e_ob M l0 12 ∧ ∀ M1 : eM, M1 = e_si M l0 0 0 → e_ob M1 l0 12 ∧ w_Mod_isMethod l0 l1 M1 (fun (v3 : Int32) (M2 : eM) => (v3 = 0 → w_Mod_method_22 M2 Q) ∧ (¬ v3 = 0 → w_Mod_within l2 0 2 M2 (fun (v5 : Int32) (M4 : eM) => (¬ v5 = 0 → e_ob M4 l0 12 ∧ (¬ (gi M4 l0 41) = 0 → (¬ l2 = 0 → e_ob M4 l0 12 ∧ e_ai M4 (gr M4 l0 50) l1 ∧ (¬ (gi M4 (gr M4 l0 50) l1.toNatClampNeg) = (-1) → (¬ l2 = 1 → e_ob M4 l0 12 ∧ e_ob M4 l0 12 ∧ e_ai M4 (gr M4 l0 50) l1 ∧ e_ai M4 (gr M4 l0 56) (gi M4 (gr M4 l0 50) l1.toNatClampNeg) ∧ w_Mod_method_78 (gi M4 (gr M4 l0 56) (gi M4 (gr M4 l0 50) l1.toNatClampNeg).toNatClampNeg) M4 Q) ∧ (l2 = 1 → w_Mod_method_78 1 M4 Q)) ∧ ((gi M4 (gr M4 l0 50) l1.toNatClampNeg) = (-1) → w_Mod_method_78 0 M4 Q)) ∧ (l2 = 0 → e_ob M4 l0 12 ∧ e_ai M4 (gr M4 l0 49) l1 ∧ Q (gi M4 (gr M4 l0 49) l1.toNatClampNeg) M4)) ∧ ((gi M4 l0 41) = 0 → Q (0 : Int32) M4)) ∧ (v5 = 0 → w_Mod_method_22 M4 Q))))
set_option maxRecDepth 100000 in
theorem b_Mod_method {d : Nat} {l0 : Nat} {l1 : Int32} {l2 : Int32} {M : eM} {Q : Int32 → eM → Prop} (hd : 2 ≤ d) (h : w_Mod_method l0 l1 l2 M Q) : e_CI 74 d 0 0 [.ref l0, .int l1, .int l2] M Q := by
  unfold w_Mod_method at h
  show e_E 74 d 0 0 0 [(0, .ref l0), (1, .int l1), (2, .int l2)] [] M (e_QI Q)
  refine r_aload_n (kd74 rfl) rfl rfl ?_
  refine r_iconst (kd74 rfl) (y := 0) (by decide) rfl ?_
  obtain ⟨g, h⟩ := h
  have h := h _ rfl
  refine r_put0 (kd74 rfl) (by decide) rfl g rfl ?_
  refine r_aload_n (kd74 rfl) rfl rfl ?_
  refine r_iload_n (kd74 rfl) rfl rfl ?_
  obtain ⟨g, h⟩ := h
  refine r_callVI (d' := d - 1) (by omega) (kd74 rfl) (by decide) rfl rfl rfl rfl (Nat.le_of_ble_eq_true rfl) rfl L73 (Nat.le_of_ble_eq_true rfl) (Nat.le_of_ble_eq_true rfl) g (Nat.zero_le _) (Nat.zero_le _) rfl rfl rfl (b_Mod_isMethod (by omega) h) (fun x1 M1 h => ?_)
  refine r_if_eq (kd74 rfl) rfl (fun c => ?_) (fun c => ?_)
  · have h := h.1 c
    exact (b_Mod_method_22 hd h).less e_sn
  · have h := h.2 c
    refine r_iload_n (kd74 rfl) rfl rfl ?_
    refine r_iconst (kd74 rfl) (y := 0) (by decide) rfl ?_
    refine r_iconst (kd74 rfl) (y := 2) (by decide) rfl ?_
    refine r_callSI (d' := d - 1) (by omega) (kd74 rfl) (by decide) rfl rfl rfl rfl (Nat.le_of_ble_eq_true rfl) rfl L50 (Nat.le_of_ble_eq_true rfl) (Nat.le_of_ble_eq_true rfl) (Nat.zero_le _) (Nat.zero_le _) rfl rfl rfl (b_Mod_within (by omega) h) (fun x1 M1 h => ?_)
    refine r_if_ne (kd74 rfl) rfl (fun c => ?_) (fun c => ?_)
    · have h := h.1 c
      refine r_aload_n (kd74 rfl) rfl rfl ?_
      obtain ⟨g, h⟩ := h
      refine r_get0 (kd74 rfl) (by decide) rfl g rfl ?_
      refine r_if_ne (kd74 rfl) rfl (fun c => ?_) (fun c => ?_)
      · have h := h.1 c
        refine r_iload_n (kd74 rfl) rfl rfl ?_
        refine r_if_ne (kd74 rfl) rfl (fun c => ?_) (fun c => ?_)
        · have h := h.1 c
          refine r_aload_n (kd74 rfl) rfl rfl ?_
          obtain ⟨g, h⟩ := h
          refine r_get2 (kd74 rfl) (by decide) rfl g rfl ?_
          refine r_iload_n (kd74 rfl) rfl rfl ?_
          obtain ⟨g, h⟩ := h
          refine r_iaload (kd74 rfl) g rfl ?_
          refine r_iconst (kd74 rfl) (y := (-1)) (by decide) rfl ?_
          refine r_icmp_ne (kd74 rfl) rfl (fun c => ?_) (fun c => ?_)
          · have h := h.1 c
            refine r_iload_n (kd74 rfl) rfl rfl ?_
            refine r_iconst (kd74 rfl) (y := 1) (by decide) rfl ?_
            refine r_icmp_ne (kd74 rfl) rfl (fun c => ?_) (fun c => ?_)
            · have h := h.1 c
              refine r_aload_n (kd74 rfl) rfl rfl ?_
              obtain ⟨g, h⟩ := h
              refine r_get2 (kd74 rfl) (by decide) rfl g rfl ?_
              refine r_aload_n (kd74 rfl) rfl rfl ?_
              obtain ⟨g, h⟩ := h
              refine r_get2 (kd74 rfl) (by decide) rfl g rfl ?_
              refine r_iload_n (kd74 rfl) rfl rfl ?_
              obtain ⟨g, h⟩ := h
              refine r_iaload (kd74 rfl) g rfl ?_
              obtain ⟨g, h⟩ := h
              refine r_iaload (kd74 rfl) g rfl ?_
              exact (b_Mod_method_78 hd h).less e_sn
            · have h := h.2 c
              refine r_iconst (kd74 rfl) (y := 1) (by decide) rfl ?_
              refine r_goto (kd74 rfl) ?_
              exact (b_Mod_method_78 hd h).less e_sn
          · have h := h.2 c
            refine r_iconst (kd74 rfl) (y := 0) (by decide) rfl ?_
            refine r_goto (kd74 rfl) ?_
            exact (b_Mod_method_78 hd h).less e_sn
        · have h := h.2 c
          refine r_aload_n (kd74 rfl) rfl rfl ?_
          obtain ⟨g, h⟩ := h
          refine r_get2 (kd74 rfl) (by decide) rfl g rfl ?_
          refine r_iload_n (kd74 rfl) rfl rfl ?_
          obtain ⟨g, h⟩ := h
          refine r_iaload (kd74 rfl) g rfl ?_
          exact r_ireturn (kd74 rfl) R74 h
      · have h := h.2 c
        refine r_iconst (kd74 rfl) (y := 0) (by decide) rfl ?_
        exact r_ireturn (kd74 rfl) R74 h
    · have h := h.2 c
      exact (b_Mod_method_22 hd h).less e_sn
/-- TierMillModel.inlined(III)I -/
theorem kd75 {pc : Nat} {q : eI} (h : e_d75.lookup pc = some q) : e_dec 75 pc = some q := h
theorem L75 : (e_m 75).2.2.1 = 4 := rfl
theorem R75 : (e_m 75).2.2.2.1 = (some .int) := rfl
set_option maxRecDepth 100000 in
def w_Mod_inlined_60 (M : eM) (Q : Int32 → eM → Prop) : Prop := Q ((-1) : Int32) M
set_option maxRecDepth 100000 in
theorem b_Mod_inlined_60 {d : Nat} {M : eM} {Q : Int32 → eM → Prop} (hd : 2 ≤ d) (h : w_Mod_inlined_60 M Q ) : e_E 75 d 0 0 60 [] [] M (e_QI Q) := by
  unfold w_Mod_inlined_60 at h
  refine r_iconst (kd75 rfl) (y := (-1)) (by decide) rfl ?_
  exact r_ireturn (kd75 rfl) R75 h
set_option maxRecDepth 100000 in
def w_Mod_inlined (l0 : Nat) (l1 : Int32) (l2 : Int32) (l3 : Int32) (M : eM) (Q : Int32 → eM → Prop) : Prop := e_ob M l0 12 ∧ ∀ M1 : eM, M1 = e_si M l0 0 0 → e_ob M1 l0 12 ∧ w_Mod_isMethod l0 l1 M1 (fun (v3 : Int32) (M2 : eM) => (v3 = 0 → w_Mod_inlined_60 M2 Q) ∧ (¬ v3 = 0 → e_ob M2 l0 12 ∧ ((gi M2 l0 41) = 0 → w_Mod_inlined_60 M2 Q) ∧ (¬ (gi M2 l0 41) = 0 → e_ob M2 l0 12 ∧ e_ai M2 (gr M2 l0 50) l1 ∧ ((gi M2 (gr M2 l0 50) l1.toNatClampNeg) = (-1) → w_Mod_inlined_60 M2 Q) ∧ (¬ (gi M2 (gr M2 l0 50) l1.toNatClampNeg) = (-1) → e_ob M2 l0 12 ∧ e_ob M2 l0 12 ∧ e_ai M2 (gr M2 l0 50) l1 ∧ e_ai M2 (gr M2 l0 56) (gi M2 (gr M2 l0 50) l1.toNatClampNeg) ∧ w_Mod_within l2 0 ((gi M2 (gr M2 l0 56) (gi M2 (gr M2 l0 50) l1.toNatClampNeg).toNatClampNeg) - 1) M2 (fun (v5 : Int32) (M4 : eM) => (v5 = 0 → w_Mod_inlined_60 M4 Q) ∧ (¬ v5 = 0 → w_Mod_within l3 0 4 M4 (fun (v7 : Int32) (M6 : eM) => (¬ v7 = 0 → e_ob M6 l0 12 ∧ e_ob M6 l0 12 ∧ e_ob M6 l0 12 ∧ e_ai M6 (gr M6 l0 50) l1 ∧ e_ai M6 (gr M6 l0 55) (gi M6 (gr M6 l0 50) l1.toNatClampNeg) ∧ e_ai M6 (gr M6 l0 59) ((6 * ((gi M6 (gr M6 l0 55) (gi M6 (gr M6 l0 50) l1.toNatClampNeg).toNatClampNeg) + l2)) + l3) ∧ Q (gi M6 (gr M6 l0 59) ((6 * ((gi M6 (gr M6 l0 55) (gi M6 (gr M6 l0 50) l1.toNatClampNeg).toNatClampNeg) + l2)) + l3).toNatClampNeg) M6) ∧ (v7 = 0 → w_Mod_inlined_60 M6 Q))))))))
set_option maxRecDepth 100000 in
theorem b_Mod_inlined {d : Nat} {l0 : Nat} {l1 : Int32} {l2 : Int32} {l3 : Int32} {M : eM} {Q : Int32 → eM → Prop} (hd : 2 ≤ d) (h : w_Mod_inlined l0 l1 l2 l3 M Q) : e_CI 75 d 0 0 [.ref l0, .int l1, .int l2, .int l3] M Q := by
  unfold w_Mod_inlined at h
  show e_E 75 d 0 0 0 [(0, .ref l0), (1, .int l1), (2, .int l2), (3, .int l3)] [] M (e_QI Q)
  refine r_aload_n (kd75 rfl) rfl rfl ?_
  refine r_iconst (kd75 rfl) (y := 0) (by decide) rfl ?_
  obtain ⟨g, h⟩ := h
  have h := h _ rfl
  refine r_put0 (kd75 rfl) (by decide) rfl g rfl ?_
  refine r_aload_n (kd75 rfl) rfl rfl ?_
  refine r_iload_n (kd75 rfl) rfl rfl ?_
  obtain ⟨g, h⟩ := h
  refine r_callVI (d' := d - 1) (by omega) (kd75 rfl) (by decide) rfl rfl rfl rfl (Nat.le_of_ble_eq_true rfl) rfl L73 (Nat.le_of_ble_eq_true rfl) (Nat.le_of_ble_eq_true rfl) g (Nat.zero_le _) (Nat.zero_le _) rfl rfl rfl (b_Mod_isMethod (by omega) h) (fun x1 M1 h => ?_)
  refine r_if_eq (kd75 rfl) rfl (fun c => ?_) (fun c => ?_)
  · have h := h.1 c
    exact (b_Mod_inlined_60 hd h).less e_sn
  · have h := h.2 c
    refine r_aload_n (kd75 rfl) rfl rfl ?_
    obtain ⟨g, h⟩ := h
    refine r_get0 (kd75 rfl) (by decide) rfl g rfl ?_
    refine r_if_eq (kd75 rfl) rfl (fun c => ?_) (fun c => ?_)
    · have h := h.1 c
      exact (b_Mod_inlined_60 hd h).less e_sn
    · have h := h.2 c
      refine r_aload_n (kd75 rfl) rfl rfl ?_
      obtain ⟨g, h⟩ := h
      refine r_get2 (kd75 rfl) (by decide) rfl g rfl ?_
      refine r_iload_n (kd75 rfl) rfl rfl ?_
      obtain ⟨g, h⟩ := h
      refine r_iaload (kd75 rfl) g rfl ?_
      refine r_iconst (kd75 rfl) (y := (-1)) (by decide) rfl ?_
      refine r_icmp_eq (kd75 rfl) rfl (fun c => ?_) (fun c => ?_)
      · have h := h.1 c
        exact (b_Mod_inlined_60 hd h).less e_sn
      · have h := h.2 c
        refine r_iload_n (kd75 rfl) rfl rfl ?_
        refine r_iconst (kd75 rfl) (y := 0) (by decide) rfl ?_
        refine r_aload_n (kd75 rfl) rfl rfl ?_
        obtain ⟨g, h⟩ := h
        refine r_get2 (kd75 rfl) (by decide) rfl g rfl ?_
        refine r_aload_n (kd75 rfl) rfl rfl ?_
        obtain ⟨g, h⟩ := h
        refine r_get2 (kd75 rfl) (by decide) rfl g rfl ?_
        refine r_iload_n (kd75 rfl) rfl rfl ?_
        obtain ⟨g, h⟩ := h
        refine r_iaload (kd75 rfl) g rfl ?_
        obtain ⟨g, h⟩ := h
        refine r_iaload (kd75 rfl) g rfl ?_
        refine r_iconst (kd75 rfl) (y := 1) (by decide) rfl ?_
        refine r_isub (kd75 rfl) rfl ?_
        refine r_callSI (d' := d - 1) (by omega) (kd75 rfl) (by decide) rfl rfl rfl rfl (Nat.le_of_ble_eq_true rfl) rfl L50 (Nat.le_of_ble_eq_true rfl) (Nat.le_of_ble_eq_true rfl) (Nat.zero_le _) (Nat.zero_le _) rfl rfl rfl (b_Mod_within (by omega) h) (fun x1 M1 h => ?_)
        refine r_if_eq (kd75 rfl) rfl (fun c => ?_) (fun c => ?_)
        · have h := h.1 c
          exact (b_Mod_inlined_60 hd h).less e_sn
        · have h := h.2 c
          refine r_iload_n (kd75 rfl) rfl rfl ?_
          refine r_iconst (kd75 rfl) (y := 0) (by decide) rfl ?_
          refine r_iconst (kd75 rfl) (y := 4) (by decide) rfl ?_
          refine r_callSI (d' := d - 1) (by omega) (kd75 rfl) (by decide) rfl rfl rfl rfl (Nat.le_of_ble_eq_true rfl) rfl L50 (Nat.le_of_ble_eq_true rfl) (Nat.le_of_ble_eq_true rfl) (Nat.zero_le _) (Nat.zero_le _) rfl rfl rfl (b_Mod_within (by omega) h) (fun x1 M1 h => ?_)
          refine r_if_ne (kd75 rfl) rfl (fun c => ?_) (fun c => ?_)
          · have h := h.1 c
            refine r_aload_n (kd75 rfl) rfl rfl ?_
            obtain ⟨g, h⟩ := h
            refine r_get2 (kd75 rfl) (by decide) rfl g rfl ?_
            refine r_bipush (kd75 rfl) (y := 6) (by decide) rfl ?_
            refine r_aload_n (kd75 rfl) rfl rfl ?_
            obtain ⟨g, h⟩ := h
            refine r_get2 (kd75 rfl) (by decide) rfl g rfl ?_
            refine r_aload_n (kd75 rfl) rfl rfl ?_
            obtain ⟨g, h⟩ := h
            refine r_get2 (kd75 rfl) (by decide) rfl g rfl ?_
            refine r_iload_n (kd75 rfl) rfl rfl ?_
            obtain ⟨g, h⟩ := h
            refine r_iaload (kd75 rfl) g rfl ?_
            obtain ⟨g, h⟩ := h
            refine r_iaload (kd75 rfl) g rfl ?_
            refine r_iload_n (kd75 rfl) rfl rfl ?_
            refine r_iadd (kd75 rfl) rfl ?_
            refine r_imul (kd75 rfl) rfl ?_
            refine r_iload_n (kd75 rfl) rfl rfl ?_
            refine r_iadd (kd75 rfl) rfl ?_
            obtain ⟨g, h⟩ := h
            refine r_iaload (kd75 rfl) g rfl ?_
            exact r_ireturn (kd75 rfl) R75 h
          · have h := h.2 c
            exact (b_Mod_inlined_60 hd h).less e_sn
/-- TierMillModel.profile(III)I -/
theorem kd76 {pc : Nat} {q : eI} (h : e_d76.lookup pc = some q) : e_dec 76 pc = some q := h
theorem L76 : (e_m 76).2.2.1 = 6 := rfl
theorem R76 : (e_m 76).2.2.2.1 = (some .int) := rfl
set_option maxRecDepth 100000 in
def w_Mod_profile_50 (M : eM) (Q : Int32 → eM → Prop) : Prop := Q ((-1) : Int32) M
set_option maxRecDepth 100000 in
theorem b_Mod_profile_50 {d : Nat} {M : eM} {Q : Int32 → eM → Prop} (hd : 2 ≤ d) (h : w_Mod_profile_50 M Q ) : e_E 76 d 0 0 50 [] [] M (e_QI Q) := by
  unfold w_Mod_profile_50 at h
  refine r_iconst (kd76 rfl) (y := (-1)) (by decide) rfl ?_
  exact r_ireturn (kd76 rfl) R76 h
set_option maxRecDepth 100000 in
def w_Mod_profile (l0 : Nat) (l1 : Int32) (l2 : Int32) (l3 : Int32) (M : eM) (Q : Int32 → eM → Prop) : Prop := e_ob M l0 12 ∧ ∀ M1 : eM, M1 = e_si M l0 0 0 → e_ob M1 l0 12 ∧ w_Mod_isMethod l0 l1 M1 (fun (v3 : Int32) (M2 : eM) => (v3 = 0 → w_Mod_profile_50 M2 Q) ∧ (¬ v3 = 0 → e_ob M2 l0 12 ∧ ((gi M2 l0 41) = 0 → w_Mod_profile_50 M2 Q) ∧ (¬ (gi M2 l0 41) = 0 → e_ob M2 l0 12 ∧ e_ai M2 (gr M2 l0 25) l1 ∧ w_Mod_within l2 0 ((gi M2 (gr M2 l0 25) l1.toNatClampNeg) - 1) M2 (fun (v5 : Int32) (M4 : eM) => (v5 = 0 → w_Mod_profile_50 M4 Q) ∧ (¬ v5 = 0 → e_ob M4 l0 12 ∧ e_ar M4 (gr M4 l0 27) 22 ((120 * l1) + l2) ∧ (¬ (gi M4 (gr M4 l0 27) ((120 * l1) + l2).toNatClampNeg) = 0 → False) ∧ ((gi M4 (gr M4 l0 27) ((120 * l1) + l2).toNatClampNeg) = 0 → w_Mod_profile_50 M4 Q))))))
set_option maxRecDepth 100000 in
theorem b_Mod_profile {d : Nat} {l0 : Nat} {l1 : Int32} {l2 : Int32} {l3 : Int32} {M : eM} {Q : Int32 → eM → Prop} (hd : 2 ≤ d) (h : w_Mod_profile l0 l1 l2 l3 M Q) : e_CI 76 d 0 0 [.ref l0, .int l1, .int l2, .int l3] M Q := by
  unfold w_Mod_profile at h
  show e_E 76 d 0 0 0 [(0, .ref l0), (1, .int l1), (2, .int l2), (3, .int l3)] [] M (e_QI Q)
  refine r_aload_n (kd76 rfl) rfl rfl ?_
  refine r_iconst (kd76 rfl) (y := 0) (by decide) rfl ?_
  obtain ⟨g, h⟩ := h
  have h := h _ rfl
  refine r_put0 (kd76 rfl) (by decide) rfl g rfl ?_
  refine r_aload_n (kd76 rfl) rfl rfl ?_
  refine r_iload_n (kd76 rfl) rfl rfl ?_
  obtain ⟨g, h⟩ := h
  refine r_callVI (d' := d - 1) (by omega) (kd76 rfl) (by decide) rfl rfl rfl rfl (Nat.le_of_ble_eq_true rfl) rfl L73 (Nat.le_of_ble_eq_true rfl) (Nat.le_of_ble_eq_true rfl) g (Nat.zero_le _) (Nat.zero_le _) rfl rfl rfl (b_Mod_isMethod (by omega) h) (fun x1 M1 h => ?_)
  refine r_if_eq (kd76 rfl) rfl (fun c => ?_) (fun c => ?_)
  · have h := h.1 c
    exact (b_Mod_profile_50 hd h).less e_sn
  · have h := h.2 c
    refine r_aload_n (kd76 rfl) rfl rfl ?_
    obtain ⟨g, h⟩ := h
    refine r_get0 (kd76 rfl) (by decide) rfl g rfl ?_
    refine r_if_eq (kd76 rfl) rfl (fun c => ?_) (fun c => ?_)
    · have h := h.1 c
      exact (b_Mod_profile_50 hd h).less e_sn
    · have h := h.2 c
      refine r_iload_n (kd76 rfl) rfl rfl ?_
      refine r_iconst (kd76 rfl) (y := 0) (by decide) rfl ?_
      refine r_aload_n (kd76 rfl) rfl rfl ?_
      obtain ⟨g, h⟩ := h
      refine r_get2 (kd76 rfl) (by decide) rfl g rfl ?_
      refine r_iload_n (kd76 rfl) rfl rfl ?_
      obtain ⟨g, h⟩ := h
      refine r_iaload (kd76 rfl) g rfl ?_
      refine r_iconst (kd76 rfl) (y := 1) (by decide) rfl ?_
      refine r_isub (kd76 rfl) rfl ?_
      refine r_callSI (d' := d - 1) (by omega) (kd76 rfl) (by decide) rfl rfl rfl rfl (Nat.le_of_ble_eq_true rfl) rfl L50 (Nat.le_of_ble_eq_true rfl) (Nat.le_of_ble_eq_true rfl) (Nat.zero_le _) (Nat.zero_le _) rfl rfl rfl (b_Mod_within (by omega) h) (fun x1 M1 h => ?_)
      refine r_if_eq (kd76 rfl) rfl (fun c => ?_) (fun c => ?_)
      · have h := h.1 c
        exact (b_Mod_profile_50 hd h).less e_sn
      · have h := h.2 c
        refine r_aload_n (kd76 rfl) rfl rfl ?_
        obtain ⟨g, h⟩ := h
        refine r_get2 (kd76 rfl) (by decide) rfl g rfl ?_
        refine r_bipush (kd76 rfl) (y := 120) (by decide) rfl ?_
        refine r_iload_n (kd76 rfl) rfl rfl ?_
        refine r_imul (kd76 rfl) rfl ?_
        refine r_iload_n (kd76 rfl) rfl rfl ?_
        refine r_iadd (kd76 rfl) rfl ?_
        obtain ⟨g, h⟩ := h
        refine r_baload (kd76 rfl) g rfl ?_
        refine r_if_ne (kd76 rfl) rfl (fun c => ?_) (fun c => ?_)
        · have h := h.1 c
          refine r_aload_n (kd76 rfl) rfl rfl ?_
          refine r_iload_n (kd76 rfl) rfl rfl ?_
          refine r_iload_n (kd76 rfl) rfl rfl ?_
          exact False.elim h
        · have h := h.2 c
          exact (b_Mod_profile_50 hd h).less e_sn
/-- TierMillModel.log(II)I -/
theorem kd77 {pc : Nat} {q : eI} (h : e_d77.lookup pc = some q) : e_dec 77 pc = some q := h
theorem L77 : (e_m 77).2.2.1 = 3 := rfl
theorem R77 : (e_m 77).2.2.2.1 = (some .int) := rfl
set_option maxRecDepth 100000 in
def w_Mod_log_49 (s0 : Int32) (M : eM) (Q : Int32 → eM → Prop) : Prop := Q s0 M
set_option maxRecDepth 100000 in
theorem b_Mod_log_49 {d : Nat} {s0 : Int32} {M : eM} {Q : Int32 → eM → Prop} (hd : 1 ≤ d) (h : w_Mod_log_49 s0 M Q ) : e_E 77 d 0 0 49 [] [.int s0] M (e_QI Q) := by
  unfold w_Mod_log_49 at h
  exact r_ireturn (kd77 rfl) R77 h
set_option maxRecDepth 100000 in
def w_Mod_log_35 (M : eM) (Q : Int32 → eM → Prop) : Prop := w_Mod_log_49 (-1) M Q
set_option maxRecDepth 100000 in
theorem b_Mod_log_35 {d : Nat} {M : eM} {Q : Int32 → eM → Prop} (hd : 1 ≤ d) (h : w_Mod_log_35 M Q ) : e_E 77 d 0 0 35 [] [] M (e_QI Q) := by
  unfold w_Mod_log_35 at h
  refine r_iconst (kd77 rfl) (y := (-1)) (by decide) rfl ?_
  refine r_goto (kd77 rfl) ?_
  exact (b_Mod_log_49 hd h).less e_sn
set_option maxRecDepth 100000 in
def w_Mod_log (l0 : Nat) (l1 : Int32) (l2 : Int32) (M : eM) (Q : Int32 → eM → Prop) : Prop := e_ob M l0 12 ∧ ∀ M1 : eM, M1 = e_si M l0 0 0 → e_ob M1 l0 12 ∧ ((gi M1 l0 41) = 0 → w_Mod_log_35 M1 Q) ∧ (¬ (gi M1 l0 41) = 0 → e_ob M1 l0 12 ∧ w_Mod_within l1 0 ((gi M1 l0 52) - 1) M1 (fun (v3 : Int32) (M2 : eM) => (v3 = 0 → w_Mod_log_35 M2 Q) ∧ (¬ v3 = 0 → w_Mod_within l2 0 4 M2 (fun (v5 : Int32) (M4 : eM) => (¬ v5 = 0 → e_ob M4 l0 12 ∧ e_ai M4 (gr M4 l0 53) ((5 * l1) + l2) ∧ w_Mod_log_49 (gi M4 (gr M4 l0 53) ((5 * l1) + l2).toNatClampNeg) M4 Q) ∧ (v5 = 0 → w_Mod_log_35 M4 Q)))))
set_option maxRecDepth 100000 in
theorem b_Mod_log {d : Nat} {l0 : Nat} {l1 : Int32} {l2 : Int32} {M : eM} {Q : Int32 → eM → Prop} (hd : 1 ≤ d) (h : w_Mod_log l0 l1 l2 M Q) : e_CI 77 d 0 0 [.ref l0, .int l1, .int l2] M Q := by
  unfold w_Mod_log at h
  show e_E 77 d 0 0 0 [(0, .ref l0), (1, .int l1), (2, .int l2)] [] M (e_QI Q)
  refine r_aload_n (kd77 rfl) rfl rfl ?_
  refine r_iconst (kd77 rfl) (y := 0) (by decide) rfl ?_
  obtain ⟨g, h⟩ := h
  have h := h _ rfl
  refine r_put0 (kd77 rfl) (by decide) rfl g rfl ?_
  refine r_aload_n (kd77 rfl) rfl rfl ?_
  obtain ⟨g, h⟩ := h
  refine r_get0 (kd77 rfl) (by decide) rfl g rfl ?_
  refine r_if_eq (kd77 rfl) rfl (fun c => ?_) (fun c => ?_)
  · have h := h.1 c
    exact (b_Mod_log_35 hd h).less e_sn
  · have h := h.2 c
    refine r_iload_n (kd77 rfl) rfl rfl ?_
    refine r_iconst (kd77 rfl) (y := 0) (by decide) rfl ?_
    refine r_aload_n (kd77 rfl) rfl rfl ?_
    obtain ⟨g, h⟩ := h
    refine r_get0 (kd77 rfl) (by decide) rfl g rfl ?_
    refine r_iconst (kd77 rfl) (y := 1) (by decide) rfl ?_
    refine r_isub (kd77 rfl) rfl ?_
    refine r_callSI (d' := d - 1) (by omega) (kd77 rfl) (by decide) rfl rfl rfl rfl (Nat.le_of_ble_eq_true rfl) rfl L50 (Nat.le_of_ble_eq_true rfl) (Nat.le_of_ble_eq_true rfl) (Nat.zero_le _) (Nat.zero_le _) rfl rfl rfl (b_Mod_within (by omega) h) (fun x1 M1 h => ?_)
    refine r_if_eq (kd77 rfl) rfl (fun c => ?_) (fun c => ?_)
    · have h := h.1 c
      exact (b_Mod_log_35 hd h).less e_sn
    · have h := h.2 c
      refine r_iload_n (kd77 rfl) rfl rfl ?_
      refine r_iconst (kd77 rfl) (y := 0) (by decide) rfl ?_
      refine r_iconst (kd77 rfl) (y := 4) (by decide) rfl ?_
      refine r_callSI (d' := d - 1) (by omega) (kd77 rfl) (by decide) rfl rfl rfl rfl (Nat.le_of_ble_eq_true rfl) rfl L50 (Nat.le_of_ble_eq_true rfl) (Nat.le_of_ble_eq_true rfl) (Nat.zero_le _) (Nat.zero_le _) rfl rfl rfl (b_Mod_within (by omega) h) (fun x1 M1 h => ?_)
      refine r_if_ne (kd77 rfl) rfl (fun c => ?_) (fun c => ?_)
      · have h := h.1 c
        refine r_aload_n (kd77 rfl) rfl rfl ?_
        obtain ⟨g, h⟩ := h
        refine r_get2 (kd77 rfl) (by decide) rfl g rfl ?_
        refine r_iconst (kd77 rfl) (y := 5) (by decide) rfl ?_
        refine r_iload_n (kd77 rfl) rfl rfl ?_
        refine r_imul (kd77 rfl) rfl ?_
        refine r_iload_n (kd77 rfl) rfl rfl ?_
        refine r_iadd (kd77 rfl) rfl ?_
        obtain ⟨g, h⟩ := h
        refine r_iaload (kd77 rfl) g rfl ?_
        exact (b_Mod_log_49 hd h).less e_sn
      · have h := h.2 c
        exact (b_Mod_log_35 hd h).less e_sn
/-- TierMillModel.total(I)I -/
theorem kd78 {pc : Nat} {q : eI} (h : e_d78.lookup pc = some q) : e_dec 78 pc = some q := h
theorem L78 : (e_m 78).2.2.1 = 3 := rfl
theorem R78 : (e_m 78).2.2.2.1 = (some .int) := rfl
set_option maxRecDepth 100000 in
def w_Mod_total_84 (s0 : Int32) (M : eM) (Q : Int32 → eM → Prop) : Prop := Q s0 M
set_option maxRecDepth 100000 in
theorem b_Mod_total_84 {d : Nat} {s0 : Int32} {M : eM} {Q : Int32 → eM → Prop} (hd : 0 ≤ d) (h : w_Mod_total_84 s0 M Q ) : e_E 78 d 0 0 84 [] [.int s0] M (e_QI Q) := by
  unfold w_Mod_total_84 at h
  exact r_ireturn (kd78 rfl) R78 h
set_option maxRecDepth 100000 in
def w_Mod_total_102 (s0 : Int32) (M : eM) (Q : Int32 → eM → Prop) : Prop := Q s0 M
set_option maxRecDepth 100000 in
theorem b_Mod_total_102 {d : Nat} {s0 : Int32} {M : eM} {Q : Int32 → eM → Prop} (hd : 0 ≤ d) (h : w_Mod_total_102 s0 M Q ) : e_E 78 d 0 0 102 [] [.int s0] M (e_QI Q) := by
  unfold w_Mod_total_102 at h
  exact r_ireturn (kd78 rfl) R78 h
set_option maxRecDepth 100000 in
def w_Mod_total_115 (s0 : Int32) (M : eM) (Q : Int32 → eM → Prop) : Prop := Q s0 M
set_option maxRecDepth 100000 in
theorem b_Mod_total_115 {d : Nat} {s0 : Int32} {M : eM} {Q : Int32 → eM → Prop} (hd : 0 ≤ d) (h : w_Mod_total_115 s0 M Q ) : e_E 78 d 0 0 115 [] [.int s0] M (e_QI Q) := by
  unfold w_Mod_total_115 at h
  exact r_ireturn (kd78 rfl) R78 h
set_option maxRecDepth 100000 in
def w_Mod_total_128 (s0 : Int32) (M : eM) (Q : Int32 → eM → Prop) : Prop := Q s0 M
set_option maxRecDepth 100000 in
theorem b_Mod_total_128 {d : Nat} {s0 : Int32} {M : eM} {Q : Int32 → eM → Prop} (hd : 0 ≤ d) (h : w_Mod_total_128 s0 M Q ) : e_E 78 d 0 0 128 [] [.int s0] M (e_QI Q) := by
  unfold w_Mod_total_128 at h
  exact r_ireturn (kd78 rfl) R78 h
set_option maxRecDepth 100000 in
def w_Mod_total_141 (s0 : Int32) (M : eM) (Q : Int32 → eM → Prop) : Prop := Q s0 M
set_option maxRecDepth 100000 in
theorem b_Mod_total_141 {d : Nat} {s0 : Int32} {M : eM} {Q : Int32 → eM → Prop} (hd : 0 ≤ d) (h : w_Mod_total_141 s0 M Q ) : e_E 78 d 0 0 141 [] [.int s0] M (e_QI Q) := by
  unfold w_Mod_total_141 at h
  exact r_ireturn (kd78 rfl) R78 h
set_option maxRecDepth 100000 in
def w_Mod_total_154 (s0 : Int32) (M : eM) (Q : Int32 → eM → Prop) : Prop := Q s0 M
set_option maxRecDepth 100000 in
theorem b_Mod_total_154 {d : Nat} {s0 : Int32} {M : eM} {Q : Int32 → eM → Prop} (hd : 0 ≤ d) (h : w_Mod_total_154 s0 M Q ) : e_E 78 d 0 0 154 [] [.int s0] M (e_QI Q) := by
  unfold w_Mod_total_154 at h
  exact r_ireturn (kd78 rfl) R78 h
set_option maxRecDepth 100000 in
def w_Mod_total_177 (s0 : Int32) (M : eM) (Q : Int32 → eM → Prop) : Prop := Q s0 M
set_option maxRecDepth 100000 in
theorem b_Mod_total_177 {d : Nat} {s0 : Int32} {M : eM} {Q : Int32 → eM → Prop} (hd : 0 ≤ d) (h : w_Mod_total_177 s0 M Q ) : e_E 78 d 0 0 177 [] [.int s0] M (e_QI Q) := by
  unfold w_Mod_total_177 at h
  exact r_ireturn (kd78 rfl) R78 h
set_option maxRecDepth 100000 in
def w_Mod_total_17 (l0 : Nat) (l1 : Int32) (s0 : Int32) (M : eM) (Q : Int32 → eM → Prop) : Prop := (l1 = 0 → (s0 = 0 → w_Mod_total_84 0 M Q) ∧ (¬ s0 = 0 → e_ob M l0 12 ∧ w_Mod_total_84 (gi M l0 44) M Q)) ∧ (¬ l1 = 0 → (l1 = 1 → e_ob M l0 12 ∧ Q (gi M l0 45) M) ∧ (¬ l1 = 1 → (l1 = 2 → (s0 = 0 → w_Mod_total_102 0 M Q) ∧ (¬ s0 = 0 → e_ob M l0 12 ∧ w_Mod_total_102 (gi M l0 47) M Q)) ∧ (¬ l1 = 2 → (l1 = 3 → (s0 = 0 → w_Mod_total_115 0 M Q) ∧ (¬ s0 = 0 → e_ob M l0 12 ∧ w_Mod_total_115 (gi M l0 60) M Q)) ∧ (¬ l1 = 3 → (l1 = 4 → (s0 = 0 → w_Mod_total_128 0 M Q) ∧ (¬ s0 = 0 → e_ob M l0 12 ∧ w_Mod_total_128 (gi M l0 52) M Q)) ∧ (¬ l1 = 4 → (l1 = 5 → (s0 = 0 → w_Mod_total_141 0 M Q) ∧ (¬ s0 = 0 → e_ob M l0 12 ∧ w_Mod_total_141 (gi M l0 71) M Q)) ∧ (¬ l1 = 5 → (l1 = 6 → (s0 = 0 → w_Mod_total_154 0 M Q) ∧ (¬ s0 = 0 → e_ob M l0 12 ∧ w_Mod_total_154 (gi M l0 72) M Q)) ∧ (¬ l1 = 6 → (l1 = 7 → e_ob M l0 12 ∧ Q (gi M l0 46) M) ∧ (¬ l1 = 7 → (l1 = 8 → e_ob M l0 12 ∧ Q (gi M l0 39) M) ∧ (¬ l1 = 8 → (l1 = 9 → (s0 = 0 → w_Mod_total_177 0 M Q) ∧ (¬ s0 = 0 → e_ob M l0 12 ∧ w_Mod_total_177 (gi M l0 70) M Q)) ∧ (¬ l1 = 9 → Q ((-1) : Int32) M))))))))))
set_option maxRecDepth 100000 in
theorem b_Mod_total_17 {d : Nat} {l0 : Nat} {l1 : Int32} {s0 : Int32} {M : eM} {Q : Int32 → eM → Prop} (hd : 0 ≤ d) (h : w_Mod_total_17 l0 l1 s0 M Q ) : e_E 78 d 0 0 17 [(0, .ref l0), (1, .int l1)] [.int s0] M (e_QI Q) := by
  unfold w_Mod_total_17 at h
  refine r_istore_n (kd78 rfl) L78 (by decide) rfl rfl ?_
  refine r_iload_n (kd78 rfl) rfl rfl ?_
  refine r_tableswitch (kd78 rfl) (u := 178) (qs := [(0, 72), (1, 85), (2, 90), (3, 103), (4, 116), (5, 129), (6, 142), (7, 155), (8, 160), (9, 165)]) rfl rfl rfl (by decide) ?_
  refine ⟨fun c => ?_, fun c => ?_⟩
  · have h := h.1 c
    refine r_iload_n (kd78 rfl) rfl rfl ?_
    refine r_if_eq (kd78 rfl) rfl (fun c => ?_) (fun c => ?_)
    · have h := h.1 c
      refine r_iconst (kd78 rfl) (y := 0) (by decide) rfl ?_
      exact (b_Mod_total_84 hd h).less e_sn
    · have h := h.2 c
      refine r_aload_n (kd78 rfl) rfl rfl ?_
      obtain ⟨g, h⟩ := h
      refine r_get0 (kd78 rfl) (by decide) rfl g rfl ?_
      refine r_goto (kd78 rfl) ?_
      exact (b_Mod_total_84 hd h).less e_sn
  have h := h.2 c
  refine ⟨fun c => ?_, fun c => ?_⟩
  · have h := h.1 c
    refine r_aload_n (kd78 rfl) rfl rfl ?_
    obtain ⟨g, h⟩ := h
    refine r_get0 (kd78 rfl) (by decide) rfl g rfl ?_
    exact r_ireturn (kd78 rfl) R78 h
  have h := h.2 c
  refine ⟨fun c => ?_, fun c => ?_⟩
  · have h := h.1 c
    refine r_iload_n (kd78 rfl) rfl rfl ?_
    refine r_if_eq (kd78 rfl) rfl (fun c => ?_) (fun c => ?_)
    · have h := h.1 c
      refine r_iconst (kd78 rfl) (y := 0) (by decide) rfl ?_
      exact (b_Mod_total_102 hd h).less e_sn
    · have h := h.2 c
      refine r_aload_n (kd78 rfl) rfl rfl ?_
      obtain ⟨g, h⟩ := h
      refine r_get0 (kd78 rfl) (by decide) rfl g rfl ?_
      refine r_goto (kd78 rfl) ?_
      exact (b_Mod_total_102 hd h).less e_sn
  have h := h.2 c
  refine ⟨fun c => ?_, fun c => ?_⟩
  · have h := h.1 c
    refine r_iload_n (kd78 rfl) rfl rfl ?_
    refine r_if_eq (kd78 rfl) rfl (fun c => ?_) (fun c => ?_)
    · have h := h.1 c
      refine r_iconst (kd78 rfl) (y := 0) (by decide) rfl ?_
      exact (b_Mod_total_115 hd h).less e_sn
    · have h := h.2 c
      refine r_aload_n (kd78 rfl) rfl rfl ?_
      obtain ⟨g, h⟩ := h
      refine r_get0 (kd78 rfl) (by decide) rfl g rfl ?_
      refine r_goto (kd78 rfl) ?_
      exact (b_Mod_total_115 hd h).less e_sn
  have h := h.2 c
  refine ⟨fun c => ?_, fun c => ?_⟩
  · have h := h.1 c
    refine r_iload_n (kd78 rfl) rfl rfl ?_
    refine r_if_eq (kd78 rfl) rfl (fun c => ?_) (fun c => ?_)
    · have h := h.1 c
      refine r_iconst (kd78 rfl) (y := 0) (by decide) rfl ?_
      exact (b_Mod_total_128 hd h).less e_sn
    · have h := h.2 c
      refine r_aload_n (kd78 rfl) rfl rfl ?_
      obtain ⟨g, h⟩ := h
      refine r_get0 (kd78 rfl) (by decide) rfl g rfl ?_
      refine r_goto (kd78 rfl) ?_
      exact (b_Mod_total_128 hd h).less e_sn
  have h := h.2 c
  refine ⟨fun c => ?_, fun c => ?_⟩
  · have h := h.1 c
    refine r_iload_n (kd78 rfl) rfl rfl ?_
    refine r_if_eq (kd78 rfl) rfl (fun c => ?_) (fun c => ?_)
    · have h := h.1 c
      refine r_iconst (kd78 rfl) (y := 0) (by decide) rfl ?_
      exact (b_Mod_total_141 hd h).less e_sn
    · have h := h.2 c
      refine r_aload_n (kd78 rfl) rfl rfl ?_
      obtain ⟨g, h⟩ := h
      refine r_get0 (kd78 rfl) (by decide) rfl g rfl ?_
      refine r_goto (kd78 rfl) ?_
      exact (b_Mod_total_141 hd h).less e_sn
  have h := h.2 c
  refine ⟨fun c => ?_, fun c => ?_⟩
  · have h := h.1 c
    refine r_iload_n (kd78 rfl) rfl rfl ?_
    refine r_if_eq (kd78 rfl) rfl (fun c => ?_) (fun c => ?_)
    · have h := h.1 c
      refine r_iconst (kd78 rfl) (y := 0) (by decide) rfl ?_
      exact (b_Mod_total_154 hd h).less e_sn
    · have h := h.2 c
      refine r_aload_n (kd78 rfl) rfl rfl ?_
      obtain ⟨g, h⟩ := h
      refine r_get0 (kd78 rfl) (by decide) rfl g rfl ?_
      refine r_goto (kd78 rfl) ?_
      exact (b_Mod_total_154 hd h).less e_sn
  have h := h.2 c
  refine ⟨fun c => ?_, fun c => ?_⟩
  · have h := h.1 c
    refine r_aload_n (kd78 rfl) rfl rfl ?_
    obtain ⟨g, h⟩ := h
    refine r_get0 (kd78 rfl) (by decide) rfl g rfl ?_
    exact r_ireturn (kd78 rfl) R78 h
  have h := h.2 c
  refine ⟨fun c => ?_, fun c => ?_⟩
  · have h := h.1 c
    refine r_aload_n (kd78 rfl) rfl rfl ?_
    obtain ⟨g, h⟩ := h
    refine r_get0 (kd78 rfl) (by decide) rfl g rfl ?_
    exact r_ireturn (kd78 rfl) R78 h
  have h := h.2 c
  refine ⟨fun c => ?_, fun c => ?_⟩
  · have h := h.1 c
    refine r_iload_n (kd78 rfl) rfl rfl ?_
    refine r_if_eq (kd78 rfl) rfl (fun c => ?_) (fun c => ?_)
    · have h := h.1 c
      refine r_iconst (kd78 rfl) (y := 0) (by decide) rfl ?_
      exact (b_Mod_total_177 hd h).less e_sn
    · have h := h.2 c
      refine r_aload_n (kd78 rfl) rfl rfl ?_
      obtain ⟨g, h⟩ := h
      refine r_get0 (kd78 rfl) (by decide) rfl g rfl ?_
      refine r_goto (kd78 rfl) ?_
      exact (b_Mod_total_177 hd h).less e_sn
  have h := h.2 c
  show e_E 78 _ _ _ 178 _ _ _ _
  refine r_iconst (kd78 rfl) (y := (-1)) (by decide) rfl ?_
  exact r_ireturn (kd78 rfl) R78 h
set_option maxRecDepth 100000 in
def w_Mod_total (l0 : Nat) (l1 : Int32) (M : eM) (Q : Int32 → eM → Prop) : Prop := e_ob M l0 12 ∧ ∀ M1 : eM, M1 = e_si M l0 0 0 → e_ob M1 l0 12 ∧ ((gi M1 l0 41) = 0 → w_Mod_total_17 l0 l1 0 M1 Q) ∧ (¬ (gi M1 l0 41) = 0 → w_Mod_total_17 l0 l1 1 M1 Q)
set_option maxRecDepth 100000 in
theorem b_Mod_total {d : Nat} {l0 : Nat} {l1 : Int32} {M : eM} {Q : Int32 → eM → Prop} (hd : 0 ≤ d) (h : w_Mod_total l0 l1 M Q) : e_CI 78 d 0 0 [.ref l0, .int l1] M Q := by
  unfold w_Mod_total at h
  show e_E 78 d 0 0 0 [(0, .ref l0), (1, .int l1)] [] M (e_QI Q)
  refine r_aload_n (kd78 rfl) rfl rfl ?_
  refine r_iconst (kd78 rfl) (y := 0) (by decide) rfl ?_
  obtain ⟨g, h⟩ := h
  have h := h _ rfl
  refine r_put0 (kd78 rfl) (by decide) rfl g rfl ?_
  refine r_aload_n (kd78 rfl) rfl rfl ?_
  obtain ⟨g, h⟩ := h
  refine r_get0 (kd78 rfl) (by decide) rfl g rfl ?_
  refine r_if_eq (kd78 rfl) rfl (fun c => ?_) (fun c => ?_)
  · have h := h.1 c
    refine r_iconst (kd78 rfl) (y := 0) (by decide) rfl ?_
    exact (b_Mod_total_17 hd h).less (e_sc (List.mem_of_getElem? (i := 0) rfl) (e_sc (List.mem_of_getElem? (i := 1) rfl) e_sn))
  · have h := h.2 c
    refine r_iconst (kd78 rfl) (y := 1) (by decide) rfl ?_
    refine r_goto (kd78 rfl) ?_
    exact (b_Mod_total_17 hd h).less (e_sc (List.mem_of_getElem? (i := 0) rfl) (e_sc (List.mem_of_getElem? (i := 1) rfl) e_sn))
