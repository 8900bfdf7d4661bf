/-- TierMill.local(II)I -/
theorem kd39 {pc : Nat} {q : eI} (h : e_d39.lookup pc = some q) : e_dec 39 pc = some q := h
theorem L39 : (e_m 39).2.2.1 = 6 := rfl
theorem R39 : (e_m 39).2.2.2.1 = (some .int) := rfl
set_option maxRecDepth 100000 in
def w_Mill_local (kc ks : Nat) (l0 : Nat) (l1 : Int32) (l2 : Int32) (M : eM) (Q : Int32 → eM → Prop) (X : Nat → eM → Prop) : Prop := e_ob M l0 11 ∧ e_ob M (gr M l0 3) 3 ∧ e_ob M (gr M (gr M l0 3) 0) 1 ∧ w_Frames_fromLatest (gr M (gr M l0 3) 0) l1 M (fun (v2 : Int32) (M1 : eM) => e_ob M1 l0 11 ∧ w_Mill_seenSlot l0 v2 l2 M1 (fun (v4 : Int32) (M3 : eM) => (¬ v4 = (-1) → e_ob M3 l0 11 ∧ e_ob M3 (gr M3 l0 3) 3 ∧ e_ob M3 (gr M3 (gr M3 l0 3) 0) 1 ∧ False) ∧ (v4 = (-1) → 1 ≤ kc ∧ 6 ≤ ks ∧ X 94 M3)))
set_option maxRecDepth 100000 in
theorem b_Mill_local {d : Nat} {kc ks : Nat} {l0 : Nat} {l1 : Int32} {l2 : Int32} {M : eM} {Q : Int32 → eM → Prop} {X : Nat → eM → Prop} (hd : 1 ≤ d) (h : w_Mill_local kc ks l0 l1 l2 M Q X) : e_C 39 d kc ks [.ref l0, .int l1, .int l2] M (e_QX Q X) := by
  unfold w_Mill_local at h
  show e_E 39 d kc ks 0 [(0, .ref l0), (1, .int l1), (2, .int l2)] [] M (e_QX Q X)
  refine r_aload_n (kd39 rfl) rfl rfl ?_
  obtain ⟨g, h⟩ := h
  refine r_get2 (kd39 rfl) (by decide) rfl g rfl ?_
  obtain ⟨g, h⟩ := h
  refine r_get2 (kd39 rfl) (by decide) rfl g rfl ?_
  refine r_iload_n (kd39 rfl) rfl rfl ?_
  obtain ⟨g, h⟩ := h
  refine r_callVI (d' := d - 1) (by omega) (kd39 rfl) (by decide) rfl rfl rfl rfl (Nat.le_of_ble_eq_true rfl) rfl L2 (Nat.le_of_ble_eq_true rfl) (Nat.le_of_ble_eq_true rfl) g (Nat.zero_le _) (Nat.zero_le _) rfl rfl rfl (b_Frames_fromLatest (by omega) h) (fun x1 M1 h => ?_)
  refine r_istore_n (kd39 rfl) L39 (by decide) rfl rfl ?_
  refine r_aload_n (kd39 rfl) rfl rfl ?_
  refine r_iload_n (kd39 rfl) rfl rfl ?_
  refine r_iload_n (kd39 rfl) rfl rfl ?_
  obtain ⟨g, h⟩ := h
  refine r_callVI (d' := d - 1) (by omega) (kd39 rfl) (by decide) rfl rfl rfl rfl (Nat.le_of_ble_eq_true rfl) rfl L41 (Nat.le_of_ble_eq_true rfl) (Nat.le_of_ble_eq_true rfl) g (Nat.zero_le _) (Nat.zero_le _) rfl rfl rfl (b_Mill_seenSlot (by omega) h) (fun x1 M1 h => ?_)
  refine r_istore (kd39 rfl) L39 (by decide) rfl rfl ?_
  refine r_iload (kd39 rfl) rfl rfl ?_
  refine r_iconst (kd39 rfl) (y := (-1)) (by decide) rfl ?_
  refine r_icmp_ne (kd39 rfl) rfl (fun c => ?_) (fun c => ?_)
  · have h := h.1 c
    refine r_aload_n (kd39 rfl) rfl rfl ?_
    obtain ⟨g, h⟩ := h
    refine r_get2 (kd39 rfl) (by decide) rfl g rfl ?_
    obtain ⟨g, h⟩ := h
    refine r_get2 (kd39 rfl) (by decide) rfl g rfl ?_
    obtain ⟨g, h⟩ := h
    refine r_get2 (kd39 rfl) (by decide) rfl g rfl ?_
    refine r_iload_n (kd39 rfl) rfl rfl ?_
    refine r_bipush (kd39 rfl) (y := 16) (by decide) rfl ?_
    refine r_imul (kd39 rfl) rfl ?_
    refine r_iload (kd39 rfl) rfl rfl ?_
    refine r_iadd (kd39 rfl) rfl ?_
    exact False.elim h
  · have h := h.2 c
    exact r_throw (kd39 rfl) (by decide) (by decide) h.1 h.2.1 (Or.inr ⟨_, rfl, h.2.2⟩)
/-- TierMill.part(III)I -/
theorem kd40 {pc : Nat} {q : eI} (h : e_d40.lookup pc = some q) : e_dec 40 pc = some q := h
theorem L40 : (e_m 40).2.2.1 = 10 := rfl
theorem R40 : (e_m 40).2.2.2.1 = (some .int) := rfl
set_option maxRecDepth 100000 in
def w_Mill_part (kc ks : Nat) (l0 : Nat) (l1 : Int32) (l2 : Int32) (l3 : Int32) (M : eM) (Q : Int32 → eM → Prop) (X : Nat → eM → Prop) : Prop := e_ob M l0 11 ∧ e_ob M (gr M l0 3) 3 ∧ e_ob M (gr M (gr M l0 3) 0) 1 ∧ w_Frames_fromLatest (gr M (gr M l0 3) 0) l1 M (fun (v2 : Int32) (M1 : eM) => e_ob M1 l0 11 ∧ w_Mill_seenSlot l0 v2 l2 M1 (fun (v4 : Int32) (M3 : eM) => (v4 = (-1) → 1 ≤ kc ∧ 6 ≤ ks ∧ X 94 M3) ∧ (¬ v4 = (-1) → e_ob M3 l0 11 ∧ e_ob M3 (gr M3 l0 3) 3 ∧ e_ob M3 l0 11 ∧ False)))
set_option maxRecDepth 100000 in
theorem b_Mill_part {d : Nat} {kc ks : Nat} {l0 : Nat} {l1 : Int32} {l2 : Int32} {l3 : Int32} {M : eM} {Q : Int32 → eM → Prop} {X : Nat → eM → Prop} (hd : 1 ≤ d) (h : w_Mill_part kc ks l0 l1 l2 l3 M Q X) : e_C 40 d kc ks [.ref l0, .int l1, .int l2, .int l3] M (e_QX Q X) := by
  unfold w_Mill_part at h
  show e_E 40 d kc ks 0 [(0, .ref l0), (1, .int l1), (2, .int l2), (3, .int l3)] [] M (e_QX Q X)
  refine r_aload_n (kd40 rfl) rfl rfl ?_
  obtain ⟨g, h⟩ := h
  refine r_get2 (kd40 rfl) (by decide) rfl g rfl ?_
  obtain ⟨g, h⟩ := h
  refine r_get2 (kd40 rfl) (by decide) rfl g rfl ?_
  refine r_iload_n (kd40 rfl) rfl rfl ?_
  obtain ⟨g, h⟩ := h
  refine r_callVI (d' := d - 1) (by omega) (kd40 rfl) (by decide) rfl rfl rfl rfl (Nat.le_of_ble_eq_true rfl) rfl L2 (Nat.le_of_ble_eq_true rfl) (Nat.le_of_ble_eq_true rfl) g (Nat.zero_le _) (Nat.zero_le _) rfl rfl rfl (b_Frames_fromLatest (by omega) h) (fun x1 M1 h => ?_)
  refine r_istore (kd40 rfl) L40 (by decide) rfl rfl ?_
  refine r_aload_n (kd40 rfl) rfl rfl ?_
  refine r_iload (kd40 rfl) rfl rfl ?_
  refine r_iload_n (kd40 rfl) rfl rfl ?_
  obtain ⟨g, h⟩ := h
  refine r_callVI (d' := d - 1) (by omega) (kd40 rfl) (by decide) rfl rfl rfl rfl (Nat.le_of_ble_eq_true rfl) rfl L41 (Nat.le_of_ble_eq_true rfl) (Nat.le_of_ble_eq_true rfl) g (Nat.zero_le _) (Nat.zero_le _) rfl rfl rfl (b_Mill_seenSlot (by omega) h) (fun x1 M1 h => ?_)
  refine r_istore (kd40 rfl) L40 (by decide) rfl rfl ?_
  refine r_iload (kd40 rfl) rfl rfl ?_
  refine r_iconst (kd40 rfl) (y := (-1)) (by decide) rfl ?_
  refine r_icmp_eq (kd40 rfl) rfl (fun c => ?_) (fun c => ?_)
  · have h := h.1 c
    exact r_throw (kd40 rfl) (by decide) (by decide) h.1 h.2.1 (Or.inr ⟨_, rfl, h.2.2⟩)
  · have h := h.2 c
    refine r_aload_n (kd40 rfl) rfl rfl ?_
    obtain ⟨g, h⟩ := h
    refine r_get2 (kd40 rfl) (by decide) rfl g rfl ?_
    obtain ⟨g, h⟩ := h
    refine r_get2 (kd40 rfl) (by decide) rfl g rfl ?_
    refine r_aload_n (kd40 rfl) rfl rfl ?_
    obtain ⟨g, h⟩ := h
    refine r_get2 (kd40 rfl) (by decide) rfl g rfl ?_
    refine r_iload (kd40 rfl) rfl rfl ?_
    refine r_iload (kd40 rfl) rfl rfl ?_
    exact False.elim h
/-- TierMill.method(II)I -/
theorem kd42 {pc : Nat} {q : eI} (h : e_d42.lookup pc = some q) : e_dec 42 pc = some q := h
theorem L42 : (e_m 42).2.2.1 = 4 := rfl
theorem R42 : (e_m 42).2.2.2.1 = (some .int) := rfl
set_option maxRecDepth 100000 in
def w_Mill_method_22 (M : eM) (Q : Int32 → eM → Prop) : Prop := Q ((-1) : Int32) M
set_option maxRecDepth 100000 in
theorem b_Mill_method_22 {d : Nat} {M : eM} {Q : Int32 → eM → Prop} (hd : 0 ≤ d) (h : w_Mill_method_22 M Q ) : e_E 42 d 0 0 22 [] [] M (e_QI Q) := by
  unfold w_Mill_method_22 at h
  refine r_iconst (kd42 rfl) (y := (-1)) (by decide) rfl ?_
  exact r_ireturn (kd42 rfl) R42 h
set_option maxRecDepth 100000 in
def w_Mill_method (l0 : Nat) (l1 : Int32) (l2 : Int32) (M : eM) (Q : Int32 → eM → Prop) : Prop := e_ob M l0 11 ∧ ((gi M l0 4) = 0 → w_Mill_method_22 M Q) ∧ (¬ (gi M l0 4) = 0 → (l1 < 0 → w_Mill_method_22 M Q) ∧ (¬ l1 < 0 → e_ob M l0 11 ∧ e_ob M (gr M l0 5) 5 ∧ (l1 < (gi M (gr M l0 5) 9) → e_ob M l0 11 ∧ e_ob M (gr M l0 3) 3 ∧ False) ∧ (¬ l1 < (gi M (gr M l0 5) 9) → w_Mill_method_22 M Q)))
set_option maxRecDepth 100000 in
theorem b_Mill_method {d : Nat} {l0 : Nat} {l1 : Int32} {l2 : Int32} {M : eM} {Q : Int32 → eM → Prop} (hd : 0 ≤ d) (h : w_Mill_method l0 l1 l2 M Q) : e_CI 42 d 0 0 [.ref l0, .int l1, .int l2] M Q := by
  unfold w_Mill_method at h
  show e_E 42 d 0 0 0 [(0, .ref l0), (1, .int l1), (2, .int l2)] [] M (e_QI Q)
  refine r_aload_n (kd42 rfl) rfl rfl ?_
  obtain ⟨g, h⟩ := h
  refine r_get3 (kd42 rfl) (by decide) rfl g rfl ?_
  refine r_if_eq (kd42 rfl) rfl (fun c => ?_) (fun c => ?_)
  · have h := h.1 c
    exact (b_Mill_method_22 hd h).less e_sn
  · have h := h.2 c
    refine r_iload_n (kd42 rfl) rfl rfl ?_
    refine r_if_lt (kd42 rfl) rfl (fun c => ?_) (fun c => ?_)
    · have h := h.1 c
      exact (b_Mill_method_22 hd h).less e_sn
    · have h := h.2 c
      refine r_iload_n (kd42 rfl) rfl rfl ?_
      refine r_aload_n (kd42 rfl) rfl rfl ?_
      obtain ⟨g, h⟩ := h
      refine r_get2 (kd42 rfl) (by decide) rfl g rfl ?_
      obtain ⟨g, h⟩ := h
      refine r_get0 (kd42 rfl) (by decide) rfl g rfl ?_
      refine r_icmp_lt (kd42 rfl) rfl (fun c => ?_) (fun c => ?_)
      · have h := h.1 c
        refine r_aload_n (kd42 rfl) rfl rfl ?_
        obtain ⟨g, h⟩ := h
        refine r_get2 (kd42 rfl) (by decide) rfl g rfl ?_
        obtain ⟨g, h⟩ := h
        refine r_get2 (kd42 rfl) (by decide) rfl g rfl ?_
        refine r_iload_n (kd42 rfl) rfl rfl ?_
        exact False.elim h
      · have h := h.2 c
        exact (b_Mill_method_22 hd h).less e_sn
/-- TierMill.inlined(III)I -/
theorem kd43 {pc : Nat} {q : eI} (h : e_d43.lookup pc = some q) : e_dec 43 pc = some q := h
theorem L43 : (e_m 43).2.2.1 = 5 := rfl
theorem R43 : (e_m 43).2.2.2.1 = (some .int) := rfl
set_option maxRecDepth 100000 in
def w_Mill_inlined_31 (M : eM) (Q : Int32 → eM → Prop) : Prop := Q ((-1) : Int32) M
set_option maxRecDepth 100000 in
theorem b_Mill_inlined_31 {d : Nat} {M : eM} {Q : Int32 → eM → Prop} (hd : 0 ≤ d) (h : w_Mill_inlined_31 M Q ) : e_E 43 d 0 0 31 [] [] M (e_QI Q) := by
  unfold w_Mill_inlined_31 at h
  refine r_iconst (kd43 rfl) (y := (-1)) (by decide) rfl ?_
  exact r_ireturn (kd43 rfl) R43 h
set_option maxRecDepth 100000 in
def w_Mill_inlined (l0 : Nat) (l1 : Int32) (l2 : Int32) (l3 : Int32) (M : eM) (Q : Int32 → eM → Prop) : Prop := e_ob M l0 11 ∧ ((gi M l0 4) = 0 → w_Mill_inlined_31 M Q) ∧ (¬ (gi M l0 4) = 0 → (l1 < 0 → w_Mill_inlined_31 M Q) ∧ (¬ l1 < 0 → e_ob M l0 11 ∧ e_ob M (gr M l0 5) 5 ∧ ((gi M (gr M l0 5) 9) ≤ l1 → w_Mill_inlined_31 M Q) ∧ (¬ (gi M (gr M l0 5) 9) ≤ l1 → (l3 < 0 → w_Mill_inlined_31 M Q) ∧ (¬ l3 < 0 → (l3 ≤ 4 → e_ob M l0 11 ∧ e_ob M (gr M l0 3) 3 ∧ False) ∧ (¬ l3 ≤ 4 → w_Mill_inlined_31 M Q)))))
set_option maxRecDepth 100000 in
theorem b_Mill_inlined {d : Nat} {l0 : Nat} {l1 : Int32} {l2 : Int32} {l3 : Int32} {M : eM} {Q : Int32 → eM → Prop} (hd : 0 ≤ d) (h : w_Mill_inlined l0 l1 l2 l3 M Q) : e_CI 43 d 0 0 [.ref l0, .int l1, .int l2, .int l3] M Q := by
  unfold w_Mill_inlined at h
  show e_E 43 d 0 0 0 [(0, .ref l0), (1, .int l1), (2, .int l2), (3, .int l3)] [] M (e_QI Q)
  refine r_aload_n (kd43 rfl) rfl rfl ?_
  obtain ⟨g, h⟩ := h
  refine r_get3 (kd43 rfl) (by decide) rfl g rfl ?_
  refine r_if_eq (kd43 rfl) rfl (fun c => ?_) (fun c => ?_)
  · have h := h.1 c
    exact (b_Mill_inlined_31 hd h).less e_sn
  · have h := h.2 c
    refine r_iload_n (kd43 rfl) rfl rfl ?_
    refine r_if_lt (kd43 rfl) rfl (fun c => ?_) (fun c => ?_)
    · have h := h.1 c
      exact (b_Mill_inlined_31 hd h).less e_sn
    · have h := h.2 c
      refine r_iload_n (kd43 rfl) rfl rfl ?_
      refine r_aload_n (kd43 rfl) rfl rfl ?_
      obtain ⟨g, h⟩ := h
      refine r_get2 (kd43 rfl) (by decide) rfl g rfl ?_
      obtain ⟨g, h⟩ := h
      refine r_get0 (kd43 rfl) (by decide) rfl g rfl ?_
      refine r_icmp_ge (kd43 rfl) rfl (fun c => ?_) (fun c => ?_)
      · have h := h.1 c
        exact (b_Mill_inlined_31 hd h).less e_sn
      · have h := h.2 c
        refine r_iload_n (kd43 rfl) rfl rfl ?_
        refine r_if_lt (kd43 rfl) rfl (fun c => ?_) (fun c => ?_)
        · have h := h.1 c
          exact (b_Mill_inlined_31 hd h).less e_sn
        · have h := h.2 c
          refine r_iload_n (kd43 rfl) rfl rfl ?_
          refine r_iconst (kd43 rfl) (y := 4) (by decide) rfl ?_
          refine r_icmp_le (kd43 rfl) rfl (fun c => ?_) (fun c => ?_)
          · have h := h.1 c
            refine r_aload_n (kd43 rfl) rfl rfl ?_
            obtain ⟨g, h⟩ := h
            refine r_get2 (kd43 rfl) (by decide) rfl g rfl ?_
            obtain ⟨g, h⟩ := h
            refine r_get2 (kd43 rfl) (by decide) rfl g rfl ?_
            refine r_iload_n (kd43 rfl) rfl rfl ?_
            exact False.elim h
          · have h := h.2 c
            exact (b_Mill_inlined_31 hd h).less e_sn
/-- TierMill.profile(III)I -/
theorem kd44 {pc : Nat} {q : eI} (h : e_d44.lookup pc = some q) : e_dec 44 pc = some q := h
theorem L44 : (e_m 44).2.2.1 = 7 := rfl
theorem R44 : (e_m 44).2.2.2.1 = (some .int) := rfl
set_option maxRecDepth 100000 in
def w_Mill_profile (l0 : Nat) (l1 : Int32) (l2 : Int32) (l3 : Int32) (M : eM) (Q : Int32 → eM → Prop) : Prop := e_ob M l0 11 ∧ e_ob M (gr M l0 3) 3 ∧ ((gi M (gr M l0 3) 7) = 0 → Q ((-1) : Int32) M) ∧ (¬ (gi M (gr M l0 3) 7) = 0 → e_ob M l0 11 ∧ False)
set_option maxRecDepth 100000 in
theorem b_Mill_profile {d : Nat} {l0 : Nat} {l1 : Int32} {l2 : Int32} {l3 : Int32} {M : eM} {Q : Int32 → eM → Prop} (hd : 0 ≤ d) (h : w_Mill_profile l0 l1 l2 l3 M Q) : e_CI 44 d 0 0 [.ref l0, .int l1, .int l2, .int l3] M Q := by
  unfold w_Mill_profile at h
  show e_E 44 d 0 0 0 [(0, .ref l0), (1, .int l1), (2, .int l2), (3, .int l3)] [] M (e_QI Q)
  refine r_aload_n (kd44 rfl) rfl rfl ?_
  obtain ⟨g, h⟩ := h
  refine r_get2 (kd44 rfl) (by decide) rfl g rfl ?_
  obtain ⟨g, h⟩ := h
  refine r_get0 (kd44 rfl) (by decide) rfl g rfl ?_
  refine r_if_eq (kd44 rfl) rfl (fun c => ?_) (fun c => ?_)
  · have h := h.1 c
    refine r_iconst (kd44 rfl) (y := (-1)) (by decide) rfl ?_
    exact r_ireturn (kd44 rfl) R44 h
  · have h := h.2 c
    refine r_aload_n (kd44 rfl) rfl rfl ?_
    obtain ⟨g, h⟩ := h
    refine r_get2 (kd44 rfl) (by decide) rfl g rfl ?_
    refine r_iload_n (kd44 rfl) rfl rfl ?_
    refine r_iload_n (kd44 rfl) rfl rfl ?_
    exact False.elim h
/-- TierMill.log(II)I -/
theorem kd45 {pc : Nat} {q : eI} (h : e_d45.lookup pc = some q) : e_dec 45 pc = some q := h
theorem L45 : (e_m 45).2.2.1 = 3 := rfl
theorem R45 : (e_m 45).2.2.2.1 = (some .int) := rfl
def w_Mill_log_24 (M : eM) (Q : Int32 → eM → Prop) : Prop := Q ((-1) : Int32) M
theorem b_Mill_log_24 {d : Nat} {M : eM} {Q : Int32 → eM → Prop} (hd : 0 ≤ d) (h : w_Mill_log_24 M Q ) : e_E 45 d 0 0 24 [] [] M (e_QI Q) := by
  unfold w_Mill_log_24 at h
  refine r_iconst (kd45 rfl) (y := (-1)) (by decide) rfl ?_
  exact r_ireturn (kd45 rfl) R45 h
def w_Mill_log (l0 : Nat) (l1 : Int32) (l2 : Int32) (M : eM) (Q : Int32 → eM → Prop) : Prop := (l1 < 0 → w_Mill_log_24 M Q) ∧ (¬ l1 < 0 → e_ob M l0 11 ∧ e_ob M (gr M l0 3) 3 ∧ ((gi M (gr M l0 3) 4) ≤ l1 → w_Mill_log_24 M Q) ∧ (¬ (gi M (gr M l0 3) 4) ≤ l1 → (l2 < 0 → w_Mill_log_24 M Q) ∧ (¬ l2 < 0 → (l2 < 5 → e_ob M l0 11 ∧ e_ob M (gr M l0 3) 3 ∧ False) ∧ (¬ l2 < 5 → w_Mill_log_24 M Q))))
theorem b_Mill_log {d : Nat} {l0 : Nat} {l1 : Int32} {l2 : Int32} {M : eM} {Q : Int32 → eM → Prop} (hd : 0 ≤ d) (h : w_Mill_log l0 l1 l2 M Q) : e_CI 45 d 0 0 [.ref l0, .int l1, .int l2] M Q := by
  unfold w_Mill_log at h
  show e_E 45 d 0 0 0 [(0, .ref l0), (1, .int l1), (2, .int l2)] [] M (e_QI Q)
  refine r_iload_n (kd45 rfl) rfl rfl ?_
  refine r_if_lt (kd45 rfl) rfl (fun c => ?_) (fun c => ?_)
  · have h := h.1 c
    exact (b_Mill_log_24 hd h).less e_sn
  · have h := h.2 c
    refine r_iload_n (kd45 rfl) rfl rfl ?_
    refine r_aload_n (kd45 rfl) rfl rfl ?_
    obtain ⟨g, h⟩ := h
    refine r_get2 (kd45 rfl) (by decide) rfl g rfl ?_
    obtain ⟨g, h⟩ := h
    refine r_get0 (kd45 rfl) (by decide) rfl g rfl ?_
    refine r_icmp_ge (kd45 rfl) rfl (fun c => ?_) (fun c => ?_)
    · have h := h.1 c
      exact (b_Mill_log_24 hd h).less e_sn
    · have h := h.2 c
      refine r_iload_n (kd45 rfl) rfl rfl ?_
      refine r_if_lt (kd45 rfl) rfl (fun c => ?_) (fun c => ?_)
      · have h := h.1 c
        exact (b_Mill_log_24 hd h).less e_sn
      · have h := h.2 c
        refine r_iload_n (kd45 rfl) rfl rfl ?_
        refine r_iconst (kd45 rfl) (y := 5) (by decide) rfl ?_
        refine r_icmp_lt (kd45 rfl) rfl (fun c => ?_) (fun c => ?_)
        · have h := h.1 c
          refine r_aload_n (kd45 rfl) rfl rfl ?_
          obtain ⟨g, h⟩ := h
          refine r_get2 (kd45 rfl) (by decide) rfl g rfl ?_
          obtain ⟨g, h⟩ := h
          refine r_get2 (kd45 rfl) (by decide) rfl g rfl ?_
          refine r_iload_n (kd45 rfl) rfl rfl ?_
          refine r_iconst (kd45 rfl) (y := 5) (by decide) rfl ?_
          refine r_imul (kd45 rfl) rfl ?_
          refine r_iload_n (kd45 rfl) rfl rfl ?_
          refine r_iadd (kd45 rfl) rfl ?_
          exact False.elim h
        · have h := h.2 c
          exact (b_Mill_log_24 hd h).less e_sn
/-- TierMill.total(I)I -/
theorem kd46 {pc : Nat} {q : eI} (h : e_d46.lookup pc = some q) : e_dec 46 pc = some q := h
theorem L46 : (e_m 46).2.2.1 = 2 := rfl
theorem R46 : (e_m 46).2.2.2.1 = (some .int) := rfl
set_option maxRecDepth 100000 in
def w_Mill_total (l0 : Nat) (l1 : Int32) (M : eM) (Q : Int32 → eM → Prop) : Prop := (l1 = 0 → e_ob M l0 11 ∧ e_ob M (gr M l0 3) 3 ∧ Q (gi M (gr M l0 3) 10) M) ∧ (¬ l1 = 0 → (l1 = 1 → e_ob M l0 11 ∧ e_ob M (gr M l0 3) 3 ∧ Q (gi M (gr M l0 3) 11) M) ∧ (¬ l1 = 1 → (l1 = 2 → e_ob M l0 11 ∧ e_ob M (gr M l0 3) 3 ∧ Q (gi M (gr M l0 3) 6) M) ∧ (¬ l1 = 2 → (l1 = 3 → e_ob M l0 11 ∧ e_ob M (gr M l0 3) 3 ∧ e_ob M (gr M (gr M l0 3) 0) 1 ∧ Q (gi M (gr M (gr M l0 3) 0) 0) M) ∧ (¬ l1 = 3 → (l1 = 4 → e_ob M l0 11 ∧ e_ob M (gr M l0 3) 3 ∧ Q (gi M (gr M l0 3) 4) M) ∧ (¬ l1 = 4 → (l1 = 5 → e_ob M l0 11 ∧ e_ob M (gr M l0 3) 3 ∧ e_ob M (gr M (gr M l0 3) 1) 2 ∧ Q (gi M (gr M (gr M l0 3) 1) 1) M) ∧ (¬ l1 = 5 → (l1 = 6 → e_ob M l0 11 ∧ e_ob M (gr M l0 3) 3 ∧ e_ob M (gr M (gr M l0 3) 1) 2 ∧ Q (gi M (gr M (gr M l0 3) 1) 2) M) ∧ (¬ l1 = 6 → (l1 = 7 → e_ob M l0 11 ∧ e_ob M (gr M l0 3) 3 ∧ e_ob M (gr M (gr M l0 3) 2) 9 ∧ Q (gi M (gr M (gr M l0 3) 2) 7) M) ∧ (¬ l1 = 7 → (l1 = 8 → e_ob M l0 11 ∧ e_ob M (gr M l0 3) 3 ∧ Q (gi M (gr M l0 3) 12) M) ∧ (¬ l1 = 8 → (l1 = 9 → e_ob M l0 11 ∧ e_ob M (gr M l0 3) 3 ∧ e_ob M (gr M (gr M l0 3) 1) 2 ∧ Q (gi M (gr M (gr M l0 3) 1) 0) M) ∧ (¬ l1 = 9 → Q ((-1) : Int32) M))))))))))
set_option maxRecDepth 100000 in
theorem b_Mill_total {d : Nat} {l0 : Nat} {l1 : Int32} {M : eM} {Q : Int32 → eM → Prop} (hd : 0 ≤ d) (h : w_Mill_total l0 l1 M Q) : e_CI 46 d 0 0 [.ref l0, .int l1] M Q := by
  unfold w_Mill_total at h
  show e_E 46 d 0 0 0 [(0, .ref l0), (1, .int l1)] [] M (e_QI Q)
  refine r_iload_n (kd46 rfl) rfl rfl ?_
  refine r_tableswitch (kd46 rfl) (u := 151) (qs := [(0, 56), (1, 64), (2, 72), (3, 80), (4, 91), (5, 99), (6, 110), (7, 121), (8, 132), (9, 140)]) rfl rfl rfl (by decide) ?_
  refine ⟨fun c => ?_, fun c => ?_⟩
  · have h := h.1 c
    refine r_aload_n (kd46 rfl) rfl rfl ?_
    obtain ⟨g, h⟩ := h
    refine r_get2 (kd46 rfl) (by decide) rfl g rfl ?_
    obtain ⟨g, h⟩ := h
    refine r_get0 (kd46 rfl) (by decide) rfl g rfl ?_
    exact r_ireturn (kd46 rfl) R46 h
  have h := h.2 c
  refine ⟨fun c => ?_, fun c => ?_⟩
  · have h := h.1 c
    refine r_aload_n (kd46 rfl) rfl rfl ?_
    obtain ⟨g, h⟩ := h
    refine r_get2 (kd46 rfl) (by decide) rfl g rfl ?_
    obtain ⟨g, h⟩ := h
    refine r_get0 (kd46 rfl) (by decide) rfl g rfl ?_
    exact r_ireturn (kd46 rfl) R46 h
  have h := h.2 c
  refine ⟨fun c => ?_, fun c => ?_⟩
  · have h := h.1 c
    refine r_aload_n (kd46 rfl) rfl rfl ?_
    obtain ⟨g, h⟩ := h
    refine r_get2 (kd46 rfl) (by decide) rfl g rfl ?_
    obtain ⟨g, h⟩ := h
    refine r_get0 (kd46 rfl) (by decide) rfl g rfl ?_
    exact r_ireturn (kd46 rfl) R46 h
  have h := h.2 c
  refine ⟨fun c => ?_, fun c => ?_⟩
  · have h := h.1 c
    refine r_aload_n (kd46 rfl) rfl rfl ?_
    obtain ⟨g, h⟩ := h
    refine r_get2 (kd46 rfl) (by decide) rfl g rfl ?_
    obtain ⟨g, h⟩ := h
    refine r_get2 (kd46 rfl) (by decide) rfl g rfl ?_
    obtain ⟨g, h⟩ := h
    refine r_get0 (kd46 rfl) (by decide) rfl g rfl ?_
    exact r_ireturn (kd46 rfl) R46 h
  have h := h.2 c
  refine ⟨fun c => ?_, fun c => ?_⟩
  · have h := h.1 c
    refine r_aload_n (kd46 rfl) rfl rfl ?_
    obtain ⟨g, h⟩ := h
    refine r_get2 (kd46 rfl) (by decide) rfl g rfl ?_
    obtain ⟨g, h⟩ := h
    refine r_get0 (kd46 rfl) (by decide) rfl g rfl ?_
    exact r_ireturn (kd46 rfl) R46 h
  have h := h.2 c
  refine ⟨fun c => ?_, fun c => ?_⟩
  · have h := h.1 c
    refine r_aload_n (kd46 rfl) rfl rfl ?_
    obtain ⟨g, h⟩ := h
    refine r_get2 (kd46 rfl) (by decide) rfl g rfl ?_
    obtain ⟨g, h⟩ := h
    refine r_get2 (kd46 rfl) (by decide) rfl g rfl ?_
    obtain ⟨g, h⟩ := h
    refine r_get0 (kd46 rfl) (by decide) rfl g rfl ?_
    exact r_ireturn (kd46 rfl) R46 h
  have h := h.2 c
  refine ⟨fun c => ?_, fun c => ?_⟩
  · have h := h.1 c
    refine r_aload_n (kd46 rfl) rfl rfl ?_
    obtain ⟨g, h⟩ := h
    refine r_get2 (kd46 rfl) (by decide) rfl g rfl ?_
    obtain ⟨g, h⟩ := h
    refine r_get2 (kd46 rfl) (by decide) rfl g rfl ?_
    obtain ⟨g, h⟩ := h
    refine r_get0 (kd46 rfl) (by decide) rfl g rfl ?_
    exact r_ireturn (kd46 rfl) R46 h
  have h := h.2 c
  refine ⟨fun c => ?_, fun c => ?_⟩
  · have h := h.1 c
    refine r_aload_n (kd46 rfl) rfl rfl ?_
    obtain ⟨g, h⟩ := h
    refine r_get2 (kd46 rfl) (by decide) rfl g rfl ?_
    obtain ⟨g, h⟩ := h
    refine r_get2 (kd46 rfl) (by decide) rfl g rfl ?_
    obtain ⟨g, h⟩ := h
    refine r_get0 (kd46 rfl) (by decide) rfl g rfl ?_
    exact r_ireturn (kd46 rfl) R46 h
  have h := h.2 c
  refine ⟨fun c => ?_, fun c => ?_⟩
  · have h := h.1 c
    refine r_aload_n (kd46 rfl) rfl rfl ?_
    obtain ⟨g, h⟩ := h
    refine r_get2 (kd46 rfl) (by decide) rfl g rfl ?_
    obtain ⟨g, h⟩ := h
    refine r_get0 (kd46 rfl) (by decide) rfl g rfl ?_
    exact r_ireturn (kd46 rfl) R46 h
  have h := h.2 c
  refine ⟨fun c => ?_, fun c => ?_⟩
  · have h := h.1 c
    refine r_aload_n (kd46 rfl) rfl rfl ?_
    obtain ⟨g, h⟩ := h
    refine r_get2 (kd46 rfl) (by decide) rfl g rfl ?_
    obtain ⟨g, h⟩ := h
    refine r_get2 (kd46 rfl) (by decide) rfl g rfl ?_
    obtain ⟨g, h⟩ := h
    refine r_get0 (kd46 rfl) (by decide) rfl g rfl ?_
    exact r_ireturn (kd46 rfl) R46 h
  have h := h.2 c
  show e_E 46 _ _ _ 151 _ _ _ _
  refine r_iconst (kd46 rfl) (y := (-1)) (by decide) rfl ?_
  exact r_ireturn (kd46 rfl) R46 h
/-- TierMillModel.<init>()V -/
theorem kd47 {pc : Nat} {q : eI} (h : e_d47.lookup pc = some q) : e_dec 47 pc = some q := h
theorem L47 : (e_m 47).2.2.1 = 1 := rfl
theorem R47 : (e_m 47).2.2.2.1 = none := rfl
set_option maxRecDepth 100000 in
def w_Mod_init (kc ks : Nat) (l0 : Nat) (M : eM) (Q : eM → Prop) : Prop := e_c0 ≤ l0 ∧ ¬ (1500 : Int32) < 0 ∧ (1500 : Int32).toNatClampNeg ≤ 400000 ∧ 1 ≤ kc ∧ (1500 : Int32).toNatClampNeg ≤ ks ∧ ∀ M1 : eM, M1 = e_new M 20 (1500 : Int32).toNatClampNeg → e_ob M1 l0 12 ∧ ∀ M2 : eM, M2 = e_sr M1 l0 2 M.1 → ¬ (1500 : Int32) < 0 ∧ (1500 : Int32).toNatClampNeg ≤ 400000 ∧ 1 ≤ (kc - 1) ∧ (1500 : Int32).toNatClampNeg ≤ (ks - (1500 : Int32).toNatClampNeg) ∧ ∀ M3 : eM, M3 = e_new M2 20 (1500 : Int32).toNatClampNeg → e_ob M3 l0 12 ∧ ∀ M4 : eM, M4 = e_sr M3 l0 3 M2.1 → ¬ (1500 : Int32) < 0 ∧ (1500 : Int32).toNatClampNeg ≤ 400000 ∧ 1 ≤ (kc - 1 - 1) ∧ (1500 : Int32).toNatClampNeg ≤ (ks - (1500 : Int32).toNatClampNeg - (1500 : Int32).toNatClampNeg) ∧ ∀ M5 : eM, M5 = e_new M4 20 (1500 : Int32).toNatClampNeg → e_ob M5 l0 12 ∧ ∀ M6 : eM, M6 = e_sr M5 l0 5 M4.1 → ¬ (8 : Int32) < 0 ∧ (8 : Int32).toNatClampNeg ≤ 400000 ∧ 1 ≤ (kc - 1 - 1 - 1) ∧ (8 : Int32).toNatClampNeg ≤ (ks - (1500 : Int32).toNatClampNeg - (1500 : Int32).toNatClampNeg - (1500 : Int32).toNatClampNeg) ∧ ∀ M7 : eM, M7 = e_new M6 20 (8 : Int32).toNatClampNeg → e_ob M7 l0 12 ∧ ∀ M8 : eM, M8 = e_sr M7 l0 12 M6.1 → ¬ (8 : Int32) < 0 ∧ (8 : Int32).toNatClampNeg ≤ 400000 ∧ 1 ≤ (kc - 1 - 1 - 1 - 1) ∧ (8 : Int32).toNatClampNeg ≤ (ks - (1500 : Int32).toNatClampNeg - (1500 : Int32).toNatClampNeg - (1500 : Int32).toNatClampNeg - (8 : Int32).toNatClampNeg) ∧ ∀ M9 : eM, M9 = e_new M8 20 (8 : Int32).toNatClampNeg → e_ob M9 l0 12 ∧ ∀ M10 : eM, M10 = e_sr M9 l0 13 M8.1 → ¬ (64 : Int32) < 0 ∧ (64 : Int32).toNatClampNeg ≤ 400000 ∧ 1 ≤ (kc - 1 - 1 - 1 - 1 - 1) ∧ (64 : Int32).toNatClampNeg ≤ (ks - (1500 : Int32).toNatClampNeg - (1500 : Int32).toNatClampNeg - (1500 : Int32).toNatClampNeg - (8 : Int32).toNatClampNeg - (8 : Int32).toNatClampNeg) ∧ ∀ M11 : eM, M11 = e_new M10 20 (64 : Int32).toNatClampNeg → e_ob M11 l0 12 ∧ ∀ M12 : eM, M12 = e_sr M11 l0 14 M10.1 → ¬ (8 : Int32) < 0 ∧ (8 : Int32).toNatClampNeg ≤ 400000 ∧ 1 ≤ (kc - 1 - 1 - 1 - 1 - 1 - 1) ∧ (8 : Int32).toNatClampNeg ≤ (ks - (1500 : Int32).toNatClampNeg - (1500 : Int32).toNatClampNeg - (1500 : Int32).toNatClampNeg - (8 : Int32).toNatClampNeg - (8 : Int32).toNatClampNeg - (64 : Int32).toNatClampNeg) ∧ ∀ M13 : eM, M13 = e_new M12 20 (8 : Int32).toNatClampNeg → e_ob M13 l0 12 ∧ ∀ M14 : eM, M14 = e_sr M13 l0 16 M12.1 → ¬ (24 : Int32) < 0 ∧ (24 : Int32).toNatClampNeg ≤ 400000 ∧ 1 ≤ (kc - 1 - 1 - 1 - 1 - 1 - 1 - 1) ∧ (24 : Int32).toNatClampNeg ≤ (ks - (1500 : Int32).toNatClampNeg - (1500 : Int32).toNatClampNeg - (1500 : Int32).toNatClampNeg - (8 : Int32).toNatClampNeg - (8 : Int32).toNatClampNeg - (64 : Int32).toNatClampNeg - (8 : Int32).toNatClampNeg) ∧ ∀ M15 : eM, M15 = e_new M14 20 (24 : Int32).toNatClampNeg → e_ob M15 l0 12 ∧ ∀ M16 : eM, M16 = e_sr M15 l0 17 M14.1 → ¬ (8 : Int32) < 0 ∧ (8 : Int32).toNatClampNeg ≤ 400000 ∧ 1 ≤ (kc - 1 - 1 - 1 - 1 - 1 - 1 - 1 - 1) ∧ (8 : Int32).toNatClampNeg ≤ (ks - (1500 : Int32).toNatClampNeg - (1500 : Int32).toNatClampNeg - (1500 : Int32).toNatClampNeg - (8 : Int32).toNatClampNeg - (8 : Int32).toNatClampNeg - (64 : Int32).toNatClampNeg - (8 : Int32).toNatClampNeg - (24 : Int32).toNatClampNeg) ∧ ∀ M17 : eM, M17 = e_new M16 20 (8 : Int32).toNatClampNeg → e_ob M17 l0 12 ∧ ∀ M18 : eM, M18 = e_sr M17 l0 18 M16.1 → ¬ (16 : Int32) < 0 ∧ (16 : Int32).toNatClampNeg ≤ 400000 ∧ 1 ≤ (kc - 1 - 1 - 1 - 1 - 1 - 1 - 1 - 1 - 1) ∧ (16 : Int32).toNatClampNeg ≤ (ks - (1500 : Int32).toNatClampNeg - (1500 : Int32).toNatClampNeg - (1500 : Int32).toNatClampNeg - (8 : Int32).toNatClampNeg - (8 : Int32).toNatClampNeg - (64 : Int32).toNatClampNeg - (8 : Int32).toNatClampNeg - (24 : Int32).toNatClampNeg - (8 : Int32).toNatClampNeg) ∧ ∀ M19 : eM, M19 = e_new M18 20 (16 : Int32).toNatClampNeg → e_ob M19 l0 12 ∧ ∀ M20 : eM, M20 = e_sr M19 l0 20 M18.1 → ¬ (64 : Int32) < 0 ∧ (64 : Int32).toNatClampNeg ≤ 400000 ∧ 1 ≤ (kc - 1 - 1 - 1 - 1 - 1 - 1 - 1 - 1 - 1 - 1) ∧ (64 : Int32).toNatClampNeg ≤ (ks - (1500 : Int32).toNatClampNeg - (1500 : Int32).toNatClampNeg - (1500 : Int32).toNatClampNeg - (8 : Int32).toNatClampNeg - (8 : Int32).toNatClampNeg - (64 : Int32).toNatClampNeg - (8 : Int32).toNatClampNeg - (24 : Int32).toNatClampNeg - (8 : Int32).toNatClampNeg - (16 : Int32).toNatClampNeg) ∧ ∀ M21 : eM, M21 = e_new M20 20 (64 : Int32).toNatClampNeg → e_ob M21 l0 12 ∧ ∀ M22 : eM, M22 = e_sr M21 l0 21 M20.1 → ¬ (16 : Int32) < 0 ∧ (16 : Int32).toNatClampNeg ≤ 400000 ∧ 1 ≤ (kc - 1 - 1 - 1 - 1 - 1 - 1 - 1 - 1 - 1 - 1 - 1) ∧ (16 : Int32).toNatClampNeg ≤ (ks - (1500 : Int32).toNatClampNeg - (1500 : Int32).toNatClampNeg - (1500 : Int32).toNatClampNeg - (8 : Int32).toNatClampNeg - (8 : Int32).toNatClampNeg - (64 : Int32).toNatClampNeg - (8 : Int32).toNatClampNeg - (24 : Int32).toNatClampNeg - (8 : Int32).toNatClampNeg - (16 : Int32).toNatClampNeg - (64 : Int32).toNatClampNeg) ∧ ∀ M23 : eM, M23 = e_new M22 20 (16 : Int32).toNatClampNeg → e_ob M23 l0 12 ∧ ∀ M24 : eM, M24 = e_sr M23 l0 22 M22.1 → ¬ (16 : Int32) < 0 ∧ (16 : Int32).toNatClampNeg ≤ 400000 ∧ 1 ≤ (kc - 1 - 1 - 1 - 1 - 1 - 1 - 1 - 1 - 1 - 1 - 1 - 1) ∧ (16 : Int32).toNatClampNeg ≤ (ks - (1500 : Int32).toNatClampNeg - (1500 : Int32).toNatClampNeg - (1500 : Int32).toNatClampNeg - (8 : Int32).toNatClampNeg - (8 : Int32).toNatClampNeg - (64 : Int32).toNatClampNeg - (8 : Int32).toNatClampNeg - (24 : Int32).toNatClampNeg - (8 : Int32).toNatClampNeg - (16 : Int32).toNatClampNeg - (64 : Int32).toNatClampNeg - (16 : Int32).toNatClampNeg) ∧ ∀ M25 : eM, M25 = e_new M24 20 (16 : Int32).toNatClampNeg → e_ob M25 l0 12 ∧ ∀ M26 : eM, M26 = e_sr M25 l0 23 M24.1 → ¬ (16 : Int32) < 0 ∧ (16 : Int32).toNatClampNeg ≤ 400000 ∧ 1 ≤ (kc - 1 - 1 - 1 - 1 - 1 - 1 - 1 - 1 - 1 - 1 - 1 - 1 - 1) ∧ (16 : Int32).toNatClampNeg ≤ (ks - (1500 : Int32).toNatClampNeg - (1500 : Int32).toNatClampNeg - (1500 : Int32).toNatClampNeg - (8 : Int32).toNatClampNeg - (8 : Int32).toNatClampNeg - (64 : Int32).toNatClampNeg - (8 : Int32).toNatClampNeg - (24 : Int32).toNatClampNeg - (8 : Int32).toNatClampNeg - (16 : Int32).toNatClampNeg - (64 : Int32).toNatClampNeg - (16 : Int32).toNatClampNeg - (16 : Int32).toNatClampNeg) ∧ ∀ M27 : eM, M27 = e_new M26 20 (16 : Int32).toNatClampNeg → e_ob M27 l0 12 ∧ ∀ M28 : eM, M28 = e_sr M27 l0 24 M26.1 → ¬ (16 : Int32) < 0 ∧ (16 : Int32).toNatClampNeg ≤ 400000 ∧ 1 ≤ (kc - 1 - 1 - 1 - 1 - 1 - 1 - 1 - 1 - 1 - 1 - 1 - 1 - 1 - 1) ∧ (16 : Int32).toNatClampNeg ≤ (ks - (1500 : Int32).toNatClampNeg - (1500 : Int32).toNatClampNeg - (1500 : Int32).toNatClampNeg - (8 : Int32).toNatClampNeg - (8 : Int32).toNatClampNeg - (64 : Int32).toNatClampNeg - (8 : Int32).toNatClampNeg - (24 : Int32).toNatClampNeg - (8 : Int32).toNatClampNeg - (16 : Int32).toNatClampNeg - (64 : Int32).toNatClampNeg - (16 : Int32).toNatClampNeg - (16 : Int32).toNatClampNeg - (16 : Int32).toNatClampNeg) ∧ ∀ M29 : eM, M29 = e_new M28 20 (16 : Int32).toNatClampNeg → e_ob M29 l0 12 ∧ ∀ M30 : eM, M30 = e_sr M29 l0 25 M28.1 → ¬ (1920 : Int32) < 0 ∧ (1920 : Int32).toNatClampNeg ≤ 400000 ∧ 1 ≤ (kc - 1 - 1 - 1 - 1 - 1 - 1 - 1 - 1 - 1 - 1 - 1 - 1 - 1 - 1 - 1) ∧ (1920 : Int32).toNatClampNeg ≤ (ks - (1500 : Int32).toNatClampNeg - (1500 : Int32).toNatClampNeg - (1500 : Int32).toNatClampNeg - (8 : Int32).toNatClampNeg - (8 : Int32).toNatClampNeg - (64 : Int32).toNatClampNeg - (8 : Int32).toNatClampNeg - (24 : Int32).toNatClampNeg - (8 : Int32).toNatClampNeg - (16 : Int32).toNatClampNeg - (64 : Int32).toNatClampNeg - (16 : Int32).toNatClampNeg - (16 : Int32).toNatClampNeg - (16 : Int32).toNatClampNeg - (16 : Int32).toNatClampNeg) ∧ ∀ M31 : eM, M31 = e_new M30 20 (1920 : Int32).toNatClampNeg → e_ob M31 l0 12 ∧ ∀ M32 : eM, M32 = e_sr M31 l0 26 M30.1 → ¬ (1920 : Int32) < 0 ∧ (1920 : Int32).toNatClampNeg ≤ 400000 ∧ 1 ≤ (kc - 1 - 1 - 1 - 1 - 1 - 1 - 1 - 1 - 1 - 1 - 1 - 1 - 1 - 1 - 1 - 1) ∧ (1920 : Int32).toNatClampNeg ≤ (ks - (1500 : Int32).toNatClampNeg - (1500 : Int32).toNatClampNeg - (1500 : Int32).toNatClampNeg - (8 : Int32).toNatClampNeg - (8 : Int32).toNatClampNeg - (64 : Int32).toNatClampNeg - (8 : Int32).toNatClampNeg - (24 : Int32).toNatClampNeg - (8 : Int32).toNatClampNeg - (16 : Int32).toNatClampNeg - (64 : Int32).toNatClampNeg - (16 : Int32).toNatClampNeg - (16 : Int32).toNatClampNeg - (16 : Int32).toNatClampNeg - (16 : Int32).toNatClampNeg - (1920 : Int32).toNatClampNeg) ∧ ∀ M33 : eM, M33 = e_new M32 22 (1920 : Int32).toNatClampNeg → e_ob M33 l0 12 ∧ ∀ M34 : eM, M34 = e_sr M33 l0 27 M32.1 → ¬ (64 : Int32) < 0 ∧ (64 : Int32).toNatClampNeg ≤ 400000 ∧ 1 ≤ (kc - 1 - 1 - 1 - 1 - 1 - 1 - 1 - 1 - 1 - 1 - 1 - 1 - 1 - 1 - 1 - 1 - 1) ∧ (64 : Int32).toNatClampNeg ≤ (ks - (1500 : Int32).toNatClampNeg - (1500 : Int32).toNatClampNeg - (1500 : Int32).toNatClampNeg - (8 : Int32).toNatClampNeg - (8 : Int32).toNatClampNeg - (64 : Int32).toNatClampNeg - (8 : Int32).toNatClampNeg - (24 : Int32).toNatClampNeg - (8 : Int32).toNatClampNeg - (16 : Int32).toNatClampNeg - (64 : Int32).toNatClampNeg - (16 : Int32).toNatClampNeg - (16 : Int32).toNatClampNeg - (16 : Int32).toNatClampNeg - (16 : Int32).toNatClampNeg - (1920 : Int32).toNatClampNeg - (1920 : Int32).toNatClampNeg) ∧ ∀ M35 : eM, M35 = e_new M34 20 (64 : Int32).toNatClampNeg → e_ob M35 l0 12 ∧ ∀ M36 : eM, M36 = e_sr M35 l0 28 M34.1 → ¬ (1920 : Int32) < 0 ∧ (1920 : Int32).toNatClampNeg ≤ 400000 ∧ 1 ≤ (kc - 1 - 1 - 1 - 1 - 1 - 1 - 1 - 1 - 1 - 1 - 1 - 1 - 1 - 1 - 1 - 1 - 1 - 1) ∧ (1920 : Int32).toNatClampNeg ≤ (ks - (1500 : Int32).toNatClampNeg - (1500 : Int32).toNatClampNeg - (1500 : Int32).toNatClampNeg - (8 : Int32).toNatClampNeg - (8 : Int32).toNatClampNeg - (64 : Int32).toNatClampNeg - (8 : Int32).toNatClampNeg - (24 : Int32).toNatClampNeg - (8 : Int32).toNatClampNeg - (16 : Int32).toNatClampNeg - (64 : Int32).toNatClampNeg - (16 : Int32).toNatClampNeg - (16 : Int32).toNatClampNeg - (16 : Int32).toNatClampNeg - (16 : Int32).toNatClampNeg - (1920 : Int32).toNatClampNeg - (1920 : Int32).toNatClampNeg - (64 : Int32).toNatClampNeg) ∧ ∀ M37 : eM, M37 = e_new M36 20 (1920 : Int32).toNatClampNeg → e_ob M37 l0 12 ∧ ∀ M38 : eM, M38 = e_sr M37 l0 29 M36.1 → ¬ (30720 : Int32) < 0 ∧ (30720 : Int32).toNatClampNeg ≤ 400000 ∧ 1 ≤ (kc - 1 - 1 - 1 - 1 - 1 - 1 - 1 - 1 - 1 - 1 - 1 - 1 - 1 - 1 - 1 - 1 - 1 - 1 - 1) ∧ (30720 : Int32).toNatClampNeg ≤ (ks - (1500 : Int32).toNatClampNeg - (1500 : Int32).toNatClampNeg - (1500 : Int32).toNatClampNeg - (8 : Int32).toNatClampNeg - (8 : Int32).toNatClampNeg - (64 : Int32).toNatClampNeg - (8 : Int32).toNatClampNeg - (24 : Int32).toNatClampNeg - (8 : Int32).toNatClampNeg - (16 : Int32).toNatClampNeg - (64 : Int32).toNatClampNeg - (16 : Int32).toNatClampNeg - (16 : Int32).toNatClampNeg - (16 : Int32).toNatClampNeg - (16 : Int32).toNatClampNeg - (1920 : Int32).toNatClampNeg - (1920 : Int32).toNatClampNeg - (64 : Int32).toNatClampNeg - (1920 : Int32).toNatClampNeg) ∧ ∀ M39 : eM, M39 = e_new M38 20 (30720 : Int32).toNatClampNeg → e_ob M39 l0 12 ∧ ∀ M40 : eM, M40 = e_sr M39 l0 30 M38.1 → ¬ (16 : Int32) < 0 ∧ (16 : Int32).toNatClampNeg ≤ 400000 ∧ 1 ≤ (kc - 1 - 1 - 1 - 1 - 1 - 1 - 1 - 1 - 1 - 1 - 1 - 1 - 1 - 1 - 1 - 1 - 1 - 1 - 1 - 1) ∧ (16 : Int32).toNatClampNeg ≤ (ks - (1500 : Int32).toNatClampNeg - (1500 : Int32).toNatClampNeg - (1500 : Int32).toNatClampNeg - (8 : Int32).toNatClampNeg - (8 : Int32).toNatClampNeg - (64 : Int32).toNatClampNeg - (8 : Int32).toNatClampNeg - (24 : Int32).toNatClampNeg - (8 : Int32).toNatClampNeg - (16 : Int32).toNatClampNeg - (64 : Int32).toNatClampNeg - (16 : Int32).toNatClampNeg - (16 : Int32).toNatClampNeg - (16 : Int32).toNatClampNeg - (16 : Int32).toNatClampNeg - (1920 : Int32).toNatClampNeg - (1920 : Int32).toNatClampNeg - (64 : Int32).toNatClampNeg - (1920 : Int32).toNatClampNeg - (30720 : Int32).toNatClampNeg) ∧ ∀ M41 : eM, M41 = e_new M40 20 (16 : Int32).toNatClampNeg → e_ob M41 l0 12 ∧ ∀ M42 : eM, M42 = e_sr M41 l0 31 M40.1 → e_ob M42 l0 12 ∧ ∀ M43 : eM, M43 = e_si M42 l0 34 3 → e_ob M43 l0 12 ∧ ∀ M44 : eM, M44 = e_si M43 l0 35 2 → e_ob M44 l0 12 ∧ ∀ M45 : eM, M45 = e_si M44 l0 36 2 → e_ob M45 l0 12 ∧ ∀ M46 : eM, M46 = e_si M45 l0 37 40 → e_ob M46 l0 12 ∧ ∀ M47 : eM, M47 = e_si M46 l0 38 500 → ¬ (100 : Int32) < 0 ∧ (100 : Int32).toNatClampNeg ≤ 400000 ∧ 1 ≤ (kc - 1 - 1 - 1 - 1 - 1 - 1 - 1 - 1 - 1 - 1 - 1 - 1 - 1 - 1 - 1 - 1 - 1 - 1 - 1 - 1 - 1) ∧ (100 : Int32).toNatClampNeg ≤ (ks - (1500 : Int32).toNatClampNeg - (1500 : Int32).toNatClampNeg - (1500 : Int32).toNatClampNeg - (8 : Int32).toNatClampNeg - (8 : Int32).toNatClampNeg - (64 : Int32).toNatClampNeg - (8 : Int32).toNatClampNeg - (24 : Int32).toNatClampNeg - (8 : Int32).toNatClampNeg - (16 : Int32).toNatClampNeg - (64 : Int32).toNatClampNeg - (16 : Int32).toNatClampNeg - (16 : Int32).toNatClampNeg - (16 : Int32).toNatClampNeg - (16 : Int32).toNatClampNeg - (1920 : Int32).toNatClampNeg - (1920 : Int32).toNatClampNeg - (64 : Int32).toNatClampNeg - (1920 : Int32).toNatClampNeg - (30720 : Int32).toNatClampNeg - (16 : Int32).toNatClampNeg) ∧ ∀ M48 : eM, M48 = e_new M47 20 (100 : Int32).toNatClampNeg → e_ob M48 l0 12 ∧ ∀ M49 : eM, M49 = e_sr M48 l0 40 M47.1 → ¬ (500 : Int32) < 0 ∧ (500 : Int32).toNatClampNeg ≤ 400000 ∧ 1 ≤ (kc - 1 - 1 - 1 - 1 - 1 - 1 - 1 - 1 - 1 - 1 - 1 - 1 - 1 - 1 - 1 - 1 - 1 - 1 - 1 - 1 - 1 - 1) ∧ (500 : Int32).toNatClampNeg ≤ (ks - (1500 : Int32).toNatClampNeg - (1500 : Int32).toNatClampNeg - (1500 : Int32).toNatClampNeg - (8 : Int32).toNatClampNeg - (8 : Int32).toNatClampNeg - (64 : Int32).toNatClampNeg - (8 : Int32).toNatClampNeg - (24 : Int32).toNatClampNeg - (8 : Int32).toNatClampNeg - (16 : Int32).toNatClampNeg - (64 : Int32).toNatClampNeg - (16 : Int32).toNatClampNeg - (16 : Int32).toNatClampNeg - (16 : Int32).toNatClampNeg - (16 : Int32).toNatClampNeg - (1920 : Int32).toNatClampNeg - (1920 : Int32).toNatClampNeg - (64 : Int32).toNatClampNeg - (1920 : Int32).toNatClampNeg - (30720 : Int32).toNatClampNeg - (16 : Int32).toNatClampNeg - (100 : Int32).toNatClampNeg) ∧ ∀ M50 : eM, M50 = e_new M49 20 (500 : Int32).toNatClampNeg → e_ob M50 l0 12 ∧ ∀ M51 : eM, M51 = e_sr M50 l0 48 M49.1 → ¬ (16 : Int32) < 0 ∧ (16 : Int32).toNatClampNeg ≤ 400000 ∧ 1 ≤ (kc - 1 - 1 - 1 - 1 - 1 - 1 - 1 - 1 - 1 - 1 - 1 - 1 - 1 - 1 - 1 - 1 - 1 - 1 - 1 - 1 - 1 - 1 - 1) ∧ (16 : Int32).toNatClampNeg ≤ (ks - (1500 : Int32).toNatClampNeg - (1500 : Int32).toNatClampNeg - (1500 : Int32).toNatClampNeg - (8 : Int32).toNatClampNeg - (8 : Int32).toNatClampNeg - (64 : Int32).toNatClampNeg - (8 : Int32).toNatClampNeg - (24 : Int32).toNatClampNeg - (8 : Int32).toNatClampNeg - (16 : Int32).toNatClampNeg - (64 : Int32).toNatClampNeg - (16 : Int32).toNatClampNeg - (16 : Int32).toNatClampNeg - (16 : Int32).toNatClampNeg - (16 : Int32).toNatClampNeg - (1920 : Int32).toNatClampNeg - (1920 : Int32).toNatClampNeg - (64 : Int32).toNatClampNeg - (1920 : Int32).toNatClampNeg - (30720 : Int32).toNatClampNeg - (16 : Int32).toNatClampNeg - (100 : Int32).toNatClampNeg - (500 : Int32).toNatClampNeg) ∧ ∀ M52 : eM, M52 = e_new M51 20 (16 : Int32).toNatClampNeg → e_ob M52 l0 12 ∧ ∀ M53 : eM, M53 = e_sr M52 l0 49 M51.1 → ¬ (16 : Int32) < 0 ∧ (16 : Int32).toNatClampNeg ≤ 400000 ∧ 1 ≤ (kc - 1 - 1 - 1 - 1 - 1 - 1 - 1 - 1 - 1 - 1 - 1 - 1 - 1 - 1 - 1 - 1 - 1 - 1 - 1 - 1 - 1 - 1 - 1 - 1) ∧ (16 : Int32).toNatClampNeg ≤ (ks - (1500 : Int32).toNatClampNeg - (1500 : Int32).toNatClampNeg - (1500 : Int32).toNatClampNeg - (8 : Int32).toNatClampNeg - (8 : Int32).toNatClampNeg - (64 : Int32).toNatClampNeg - (8 : Int32).toNatClampNeg - (24 : Int32).toNatClampNeg - (8 : Int32).toNatClampNeg - (16 : Int32).toNatClampNeg - (64 : Int32).toNatClampNeg - (16 : Int32).toNatClampNeg - (16 : Int32).toNatClampNeg - (16 : Int32).toNatClampNeg - (16 : Int32).toNatClampNeg - (1920 : Int32).toNatClampNeg - (1920 : Int32).toNatClampNeg - (64 : Int32).toNatClampNeg - (1920 : Int32).toNatClampNeg - (30720 : Int32).toNatClampNeg - (16 : Int32).toNatClampNeg - (100 : Int32).toNatClampNeg - (500 : Int32).toNatClampNeg - (16 : Int32).toNatClampNeg) ∧ ∀ M54 : eM, M54 = e_new M53 20 (16 : Int32).toNatClampNeg → e_ob M54 l0 12 ∧ ∀ M55 : eM, M55 = e_sr M54 l0 50 M53.1 → ¬ (15360 : Int32) < 0 ∧ (15360 : Int32).toNatClampNeg ≤ 400000 ∧ 1 ≤ (kc - 1 - 1 - 1 - 1 - 1 - 1 - 1 - 1 - 1 - 1 - 1 - 1 - 1 - 1 - 1 - 1 - 1 - 1 - 1 - 1 - 1 - 1 - 1 - 1 - 1) ∧ (15360 : Int32).toNatClampNeg ≤ (ks - (1500 : Int32).toNatClampNeg - (1500 : Int32).toNatClampNeg - (1500 : Int32).toNatClampNeg - (8 : Int32).toNatClampNeg - (8 : Int32).toNatClampNeg - (64 : Int32).toNatClampNeg - (8 : Int32).toNatClampNeg - (24 : Int32).toNatClampNeg - (8 : Int32).toNatClampNeg - (16 : Int32).toNatClampNeg - (64 : Int32).toNatClampNeg - (16 : Int32).toNatClampNeg - (16 : Int32).toNatClampNeg - (16 : Int32).toNatClampNeg - (16 : Int32).toNatClampNeg - (1920 : Int32).toNatClampNeg - (1920 : Int32).toNatClampNeg - (64 : Int32).toNatClampNeg - (1920 : Int32).toNatClampNeg - (30720 : Int32).toNatClampNeg - (16 : Int32).toNatClampNeg - (100 : Int32).toNatClampNeg - (500 : Int32).toNatClampNeg - (16 : Int32).toNatClampNeg - (16 : Int32).toNatClampNeg) ∧ ∀ M56 : eM, M56 = e_new M55 20 (15360 : Int32).toNatClampNeg → e_ob M56 l0 12 ∧ ∀ M57 : eM, M57 = e_sr M56 l0 51 M55.1 → ¬ (1500 : Int32) < 0 ∧ (1500 : Int32).toNatClampNeg ≤ 400000 ∧ 1 ≤ (kc - 1 - 1 - 1 - 1 - 1 - 1 - 1 - 1 - 1 - 1 - 1 - 1 - 1 - 1 - 1 - 1 - 1 - 1 - 1 - 1 - 1 - 1 - 1 - 1 - 1 - 1) ∧ (1500 : Int32).toNatClampNeg ≤ (ks - (1500 : Int32).toNatClampNeg - (1500 : Int32).toNatClampNeg - (1500 : Int32).toNatClampNeg - (8 : Int32).toNatClampNeg - (8 : Int32).toNatClampNeg - (64 : Int32).toNatClampNeg - (8 : Int32).toNatClampNeg - (24 : Int32).toNatClampNeg - (8 : Int32).toNatClampNeg - (16 : Int32).toNatClampNeg - (64 : Int32).toNatClampNeg - (16 : Int32).toNatClampNeg - (16 : Int32).toNatClampNeg - (16 : Int32).toNatClampNeg - (16 : Int32).toNatClampNeg - (1920 : Int32).toNatClampNeg - (1920 : Int32).toNatClampNeg - (64 : Int32).toNatClampNeg - (1920 : Int32).toNatClampNeg - (30720 : Int32).toNatClampNeg - (16 : Int32).toNatClampNeg - (100 : Int32).toNatClampNeg - (500 : Int32).toNatClampNeg - (16 : Int32).toNatClampNeg - (16 : Int32).toNatClampNeg - (15360 : Int32).toNatClampNeg) ∧ ∀ M58 : eM, M58 = e_new M57 20 (1500 : Int32).toNatClampNeg → e_ob M58 l0 12 ∧ ∀ M59 : eM, M59 = e_sr M58 l0 53 M57.1 → ¬ (101 : Int32) < 0 ∧ (101 : Int32).toNatClampNeg ≤ 400000 ∧ 1 ≤ (kc - 1 - 1 - 1 - 1 - 1 - 1 - 1 - 1 - 1 - 1 - 1 - 1 - 1 - 1 - 1 - 1 - 1 - 1 - 1 - 1 - 1 - 1 - 1 - 1 - 1 - 1 - 1) ∧ (101 : Int32).toNatClampNeg ≤ (ks - (1500 : Int32).toNatClampNeg - (1500 : Int32).toNatClampNeg - (1500 : Int32).toNatClampNeg - (8 : Int32).toNatClampNeg - (8 : Int32).toNatClampNeg - (64 : Int32).toNatClampNeg - (8 : Int32).toNatClampNeg - (24 : Int32).toNatClampNeg - (8 : Int32).toNatClampNeg - (16 : Int32).toNatClampNeg - (64 : Int32).toNatClampNeg - (16 : Int32).toNatClampNeg - (16 : Int32).toNatClampNeg - (16 : Int32).toNatClampNeg - (16 : Int32).toNatClampNeg - (1920 : Int32).toNatClampNeg - (1920 : Int32).toNatClampNeg - (64 : Int32).toNatClampNeg - (1920 : Int32).toNatClampNeg - (30720 : Int32).toNatClampNeg - (16 : Int32).toNatClampNeg - (100 : Int32).toNatClampNeg - (500 : Int32).toNatClampNeg - (16 : Int32).toNatClampNeg - (16 : Int32).toNatClampNeg - (15360 : Int32).toNatClampNeg - (1500 : Int32).toNatClampNeg) ∧ ∀ M60 : eM, M60 = e_new M59 20 (101 : Int32).toNatClampNeg → e_ob M60 l0 12 ∧ ∀ M61 : eM, M61 = e_sr M60 l0 55 M59.1 → ¬ (101 : Int32) < 0 ∧ (101 : Int32).toNatClampNeg ≤ 400000 ∧ 1 ≤ (kc - 1 - 1 - 1 - 1 - 1 - 1 - 1 - 1 - 1 - 1 - 1 - 1 - 1 - 1 - 1 - 1 - 1 - 1 - 1 - 1 - 1 - 1 - 1 - 1 - 1 - 1 - 1 - 1) ∧ (101 : Int32).toNatClampNeg ≤ (ks - (1500 : Int32).toNatClampNeg - (1500 : Int32).toNatClampNeg - (1500 : Int32).toNatClampNeg - (8 : Int32).toNatClampNeg - (8 : Int32).toNatClampNeg - (64 : Int32).toNatClampNeg - (8 : Int32).toNatClampNeg - (24 : Int32).toNatClampNeg - (8 : Int32).toNatClampNeg - (16 : Int32).toNatClampNeg - (64 : Int32).toNatClampNeg - (16 : Int32).toNatClampNeg - (16 : Int32).toNatClampNeg - (16 : Int32).toNatClampNeg - (16 : Int32).toNatClampNeg - (1920 : Int32).toNatClampNeg - (1920 : Int32).toNatClampNeg - (64 : Int32).toNatClampNeg - (1920 : Int32).toNatClampNeg - (30720 : Int32).toNatClampNeg - (16 : Int32).toNatClampNeg - (100 : Int32).toNatClampNeg - (500 : Int32).toNatClampNeg - (16 : Int32).toNatClampNeg - (16 : Int32).toNatClampNeg - (15360 : Int32).toNatClampNeg - (1500 : Int32).toNatClampNeg - (101 : Int32).toNatClampNeg) ∧ ∀ M62 : eM, M62 = e_new M61 20 (101 : Int32).toNatClampNeg → e_ob M62 l0 12 ∧ ∀ M63 : eM, M63 = e_sr M62 l0 56 M61.1 → ¬ (180600 : Int32) < 0 ∧ (180600 : Int32).toNatClampNeg ≤ 400000 ∧ 1 ≤ (kc - 1 - 1 - 1 - 1 - 1 - 1 - 1 - 1 - 1 - 1 - 1 - 1 - 1 - 1 - 1 - 1 - 1 - 1 - 1 - 1 - 1 - 1 - 1 - 1 - 1 - 1 - 1 - 1 - 1) ∧ (180600 : Int32).toNatClampNeg ≤ (ks - (1500 : Int32).toNatClampNeg - (1500 : Int32).toNatClampNeg - (1500 : Int32).toNatClampNeg - (8 : Int32).toNatClampNeg - (8 : Int32).toNatClampNeg - (64 : Int32).toNatClampNeg - (8 : Int32).toNatClampNeg - (24 : Int32).toNatClampNeg - (8 : Int32).toNatClampNeg - (16 : Int32).toNatClampNeg - (64 : Int32).toNatClampNeg - (16 : Int32).toNatClampNeg - (16 : Int32).toNatClampNeg - (16 : Int32).toNatClampNeg - (16 : Int32).toNatClampNeg - (1920 : Int32).toNatClampNeg - (1920 : Int32).toNatClampNeg - (64 : Int32).toNatClampNeg - (1920 : Int32).toNatClampNeg - (30720 : Int32).toNatClampNeg - (16 : Int32).toNatClampNeg - (100 : Int32).toNatClampNeg - (500 : Int32).toNatClampNeg - (16 : Int32).toNatClampNeg - (16 : Int32).toNatClampNeg - (15360 : Int32).toNatClampNeg - (1500 : Int32).toNatClampNeg - (101 : Int32).toNatClampNeg - (101 : Int32).toNatClampNeg) ∧ ∀ M64 : eM, M64 = e_new M63 20 (180600 : Int32).toNatClampNeg → e_ob M64 l0 12 ∧ ∀ M65 : eM, M65 = e_sr M64 l0 59 M63.1 → ¬ (64 : Int32) < 0 ∧ (64 : Int32).toNatClampNeg ≤ 400000 ∧ 1 ≤ (kc - 1 - 1 - 1 - 1 - 1 - 1 - 1 - 1 - 1 - 1 - 1 - 1 - 1 - 1 - 1 - 1 - 1 - 1 - 1 - 1 - 1 - 1 - 1 - 1 - 1 - 1 - 1 - 1 - 1 - 1) ∧ (64 : Int32).toNatClampNeg ≤ (ks - (1500 : Int32).toNatClampNeg - (1500 : Int32).toNatClampNeg - (1500 : Int32).toNatClampNeg - (8 : Int32).toNatClampNeg - (8 : Int32).toNatClampNeg - (64 : Int32).toNatClampNeg - (8 : Int32).toNatClampNeg - (24 : Int32).toNatClampNeg - (8 : Int32).toNatClampNeg - (16 : Int32).toNatClampNeg - (64 : Int32).toNatClampNeg - (16 : Int32).toNatClampNeg - (16 : Int32).toNatClampNeg - (16 : Int32).toNatClampNeg - (16 : Int32).toNatClampNeg - (1920 : Int32).toNatClampNeg - (1920 : Int32).toNatClampNeg - (64 : Int32).toNatClampNeg - (1920 : Int32).toNatClampNeg - (30720 : Int32).toNatClampNeg - (16 : Int32).toNatClampNeg - (100 : Int32).toNatClampNeg - (500 : Int32).toNatClampNeg - (16 : Int32).toNatClampNeg - (16 : Int32).toNatClampNeg - (15360 : Int32).toNatClampNeg - (1500 : Int32).toNatClampNeg - (101 : Int32).toNatClampNeg - (101 : Int32).toNatClampNeg - (180600 : Int32).toNatClampNeg) ∧ ∀ M66 : eM, M66 = e_new M65 20 (64 : Int32).toNatClampNeg → e_ob M66 l0 12 ∧ ∀ M67 : eM, M67 = e_sr M66 l0 61 M65.1 → ¬ (64 : Int32) < 0 ∧ (64 : Int32).toNatClampNeg ≤ 400000 ∧ 1 ≤ (kc - 1 - 1 - 1 - 1 - 1 - 1 - 1 - 1 - 1 - 1 - 1 - 1 - 1 - 1 - 1 - 1 - 1 - 1 - 1 - 1 - 1 - 1 - 1 - 1 - 1 - 1 - 1 - 1 - 1 - 1 - 1) ∧ (64 : Int32).toNatClampNeg ≤ (ks - (1500 : Int32).toNatClampNeg - (1500 : Int32).toNatClampNeg - (1500 : Int32).toNatClampNeg - (8 : Int32).toNatClampNeg - (8 : Int32).toNatClampNeg - (64 : Int32).toNatClampNeg - (8 : Int32).toNatClampNeg - (24 : Int32).toNatClampNeg - (8 : Int32).toNatClampNeg - (16 : Int32).toNatClampNeg - (64 : Int32).toNatClampNeg - (16 : Int32).toNatClampNeg - (16 : Int32).toNatClampNeg - (16 : Int32).toNatClampNeg - (16 : Int32).toNatClampNeg - (1920 : Int32).toNatClampNeg - (1920 : Int32).toNatClampNeg - (64 : Int32).toNatClampNeg - (1920 : Int32).toNatClampNeg - (30720 : Int32).toNatClampNeg - (16 : Int32).toNatClampNeg - (100 : Int32).toNatClampNeg - (500 : Int32).toNatClampNeg - (16 : Int32).toNatClampNeg - (16 : Int32).toNatClampNeg - (15360 : Int32).toNatClampNeg - (1500 : Int32).toNatClampNeg - (101 : Int32).toNatClampNeg - (101 : Int32).toNatClampNeg - (180600 : Int32).toNatClampNeg - (64 : Int32).toNatClampNeg) ∧ ∀ M68 : eM, M68 = e_new M67 20 (64 : Int32).toNatClampNeg → e_ob M68 l0 12 ∧ ∀ M69 : eM, M69 = e_sr M68 l0 62 M67.1 → ¬ (64 : Int32) < 0 ∧ (64 : Int32).toNatClampNeg ≤ 400000 ∧ 1 ≤ (kc - 1 - 1 - 1 - 1 - 1 - 1 - 1 - 1 - 1 - 1 - 1 - 1 - 1 - 1 - 1 - 1 - 1 - 1 - 1 - 1 - 1 - 1 - 1 - 1 - 1 - 1 - 1 - 1 - 1 - 1 - 1 - 1) ∧ (64 : Int32).toNatClampNeg ≤ (ks - (1500 : Int32).toNatClampNeg - (1500 : Int32).toNatClampNeg - (1500 : Int32).toNatClampNeg - (8 : Int32).toNatClampNeg - (8 : Int32).toNatClampNeg - (64 : Int32).toNatClampNeg - (8 : Int32).toNatClampNeg - (24 : Int32).toNatClampNeg - (8 : Int32).toNatClampNeg - (16 : Int32).toNatClampNeg - (64 : Int32).toNatClampNeg - (16 : Int32).toNatClampNeg - (16 : Int32).toNatClampNeg - (16 : Int32).toNatClampNeg - (16 : Int32).toNatClampNeg - (1920 : Int32).toNatClampNeg - (1920 : Int32).toNatClampNeg - (64 : Int32).toNatClampNeg - (1920 : Int32).toNatClampNeg - (30720 : Int32).toNatClampNeg - (16 : Int32).toNatClampNeg - (100 : Int32).toNatClampNeg - (500 : Int32).toNatClampNeg - (16 : Int32).toNatClampNeg - (16 : Int32).toNatClampNeg - (15360 : Int32).toNatClampNeg - (1500 : Int32).toNatClampNeg - (101 : Int32).toNatClampNeg - (101 : Int32).toNatClampNeg - (180600 : Int32).toNatClampNeg - (64 : Int32).toNatClampNeg - (64 : Int32).toNatClampNeg) ∧ ∀ M70 : eM, M70 = e_new M69 20 (64 : Int32).toNatClampNeg → e_ob M70 l0 12 ∧ ∀ M71 : eM, M71 = e_sr M70 l0 63 M69.1 → ¬ (64 : Int32) < 0 ∧ (64 : Int32).toNatClampNeg ≤ 400000 ∧ 1 ≤ (kc - 1 - 1 - 1 - 1 - 1 - 1 - 1 - 1 - 1 - 1 - 1 - 1 - 1 - 1 - 1 - 1 - 1 - 1 - 1 - 1 - 1 - 1 - 1 - 1 - 1 - 1 - 1 - 1 - 1 - 1 - 1 - 1 - 1) ∧ (64 : Int32).toNatClampNeg ≤ (ks - (1500 : Int32).toNatClampNeg - (1500 : Int32).toNatClampNeg - (1500 : Int32).toNatClampNeg - (8 : Int32).toNatClampNeg - (8 : Int32).toNatClampNeg - (64 : Int32).toNatClampNeg - (8 : Int32).toNatClampNeg - (24 : Int32).toNatClampNeg - (8 : Int32).toNatClampNeg - (16 : Int32).toNatClampNeg - (64 : Int32).toNatClampNeg - (16 : Int32).toNatClampNeg - (16 : Int32).toNatClampNeg - (16 : Int32).toNatClampNeg - (16 : Int32).toNatClampNeg - (1920 : Int32).toNatClampNeg - (1920 : Int32).toNatClampNeg - (64 : Int32).toNatClampNeg - (1920 : Int32).toNatClampNeg - (30720 : Int32).toNatClampNeg - (16 : Int32).toNatClampNeg - (100 : Int32).toNatClampNeg - (500 : Int32).toNatClampNeg - (16 : Int32).toNatClampNeg - (16 : Int32).toNatClampNeg - (15360 : Int32).toNatClampNeg - (1500 : Int32).toNatClampNeg - (101 : Int32).toNatClampNeg - (101 : Int32).toNatClampNeg - (180600 : Int32).toNatClampNeg - (64 : Int32).toNatClampNeg - (64 : Int32).toNatClampNeg - (64 : Int32).toNatClampNeg) ∧ ∀ M72 : eM, M72 = e_new M71 20 (64 : Int32).toNatClampNeg → e_ob M72 l0 12 ∧ ∀ M73 : eM, M73 = e_sr M72 l0 64 M71.1 → ¬ (64 : Int32) < 0 ∧ (64 : Int32).toNatClampNeg ≤ 400000 ∧ 1 ≤ (kc - 1 - 1 - 1 - 1 - 1 - 1 - 1 - 1 - 1 - 1 - 1 - 1 - 1 - 1 - 1 - 1 - 1 - 1 - 1 - 1 - 1 - 1 - 1 - 1 - 1 - 1 - 1 - 1 - 1 - 1 - 1 - 1 - 1 - 1) ∧ (64 : Int32).toNatClampNeg ≤ (ks - (1500 : Int32).toNatClampNeg - (1500 : Int32).toNatClampNeg - (1500 : Int32).toNatClampNeg - (8 : Int32).toNatClampNeg - (8 : Int32).toNatClampNeg - (64 : Int32).toNatClampNeg - (8 : Int32).toNatClampNeg - (24 : Int32).toNatClampNeg - (8 : Int32).toNatClampNeg - (16 : Int32).toNatClampNeg - (64 : Int32).toNatClampNeg - (16 : Int32).toNatClampNeg - (16 : Int32).toNatClampNeg - (16 : Int32).toNatClampNeg - (16 : Int32).toNatClampNeg - (1920 : Int32).toNatClampNeg - (1920 : Int32).toNatClampNeg - (64 : Int32).toNatClampNeg - (1920 : Int32).toNatClampNeg - (30720 : Int32).toNatClampNeg - (16 : Int32).toNatClampNeg - (100 : Int32).toNatClampNeg - (500 : Int32).toNatClampNeg - (16 : Int32).toNatClampNeg - (16 : Int32).toNatClampNeg - (15360 : Int32).toNatClampNeg - (1500 : Int32).toNatClampNeg - (101 : Int32).toNatClampNeg - (101 : Int32).toNatClampNeg - (180600 : Int32).toNatClampNeg - (64 : Int32).toNatClampNeg - (64 : Int32).toNatClampNeg - (64 : Int32).toNatClampNeg - (64 : Int32).toNatClampNeg) ∧ ∀ M74 : eM, M74 = e_new M73 20 (64 : Int32).toNatClampNeg → e_ob M74 l0 12 ∧ ∀ M75 : eM, M75 = e_sr M74 l0 65 M73.1 → ¬ (64 : Int32) < 0 ∧ (64 : Int32).toNatClampNeg ≤ 400000 ∧ 1 ≤ (kc - 1 - 1 - 1 - 1 - 1 - 1 - 1 - 1 - 1 - 1 - 1 - 1 - 1 - 1 - 1 - 1 - 1 - 1 - 1 - 1 - 1 - 1 - 1 - 1 - 1 - 1 - 1 - 1 - 1 - 1 - 1 - 1 - 1 - 1 - 1) ∧ (64 : Int32).toNatClampNeg ≤ (ks - (1500 : Int32).toNatClampNeg - (1500 : Int32).toNatClampNeg - (1500 : Int32).toNatClampNeg - (8 : Int32).toNatClampNeg - (8 : Int32).toNatClampNeg - (64 : Int32).toNatClampNeg - (8 : Int32).toNatClampNeg - (24 : Int32).toNatClampNeg - (8 : Int32).toNatClampNeg - (16 : Int32).toNatClampNeg - (64 : Int32).toNatClampNeg - (16 : Int32).toNatClampNeg - (16 : Int32).toNatClampNeg - (16 : Int32).toNatClampNeg - (16 : Int32).toNatClampNeg - (1920 : Int32).toNatClampNeg - (1920 : Int32).toNatClampNeg - (64 : Int32).toNatClampNeg - (1920 : Int32).toNatClampNeg - (30720 : Int32).toNatClampNeg - (16 : Int32).toNatClampNeg - (100 : Int32).toNatClampNeg - (500 : Int32).toNatClampNeg - (16 : Int32).toNatClampNeg - (16 : Int32).toNatClampNeg - (15360 : Int32).toNatClampNeg - (1500 : Int32).toNatClampNeg - (101 : Int32).toNatClampNeg - (101 : Int32).toNatClampNeg - (180600 : Int32).toNatClampNeg - (64 : Int32).toNatClampNeg - (64 : Int32).toNatClampNeg - (64 : Int32).toNatClampNeg - (64 : Int32).toNatClampNeg - (64 : Int32).toNatClampNeg) ∧ ∀ M76 : eM, M76 = e_new M75 20 (64 : Int32).toNatClampNeg → e_ob M76 l0 12 ∧ ∀ M77 : eM, M77 = e_sr M76 l0 66 M75.1 → ¬ (64 : Int32) < 0 ∧ (64 : Int32).toNatClampNeg ≤ 400000 ∧ 1 ≤ (kc - 1 - 1 - 1 - 1 - 1 - 1 - 1 - 1 - 1 - 1 - 1 - 1 - 1 - 1 - 1 - 1 - 1 - 1 - 1 - 1 - 1 - 1 - 1 - 1 - 1 - 1 - 1 - 1 - 1 - 1 - 1 - 1 - 1 - 1 - 1 - 1) ∧ (64 : Int32).toNatClampNeg ≤ (ks - (1500 : Int32).toNatClampNeg - (1500 : Int32).toNatClampNeg - (1500 : Int32).toNatClampNeg - (8 : Int32).toNatClampNeg - (8 : Int32).toNatClampNeg - (64 : Int32).toNatClampNeg - (8 : Int32).toNatClampNeg - (24 : Int32).toNatClampNeg - (8 : Int32).toNatClampNeg - (16 : Int32).toNatClampNeg - (64 : Int32).toNatClampNeg - (16 : Int32).toNatClampNeg - (16 : Int32).toNatClampNeg - (16 : Int32).toNatClampNeg - (16 : Int32).toNatClampNeg - (1920 : Int32).toNatClampNeg - (1920 : Int32).toNatClampNeg - (64 : Int32).toNatClampNeg - (1920 : Int32).toNatClampNeg - (30720 : Int32).toNatClampNeg - (16 : Int32).toNatClampNeg - (100 : Int32).toNatClampNeg - (500 : Int32).toNatClampNeg - (16 : Int32).toNatClampNeg - (16 : Int32).toNatClampNeg - (15360 : Int32).toNatClampNeg - (1500 : Int32).toNatClampNeg - (101 : Int32).toNatClampNeg - (101 : Int32).toNatClampNeg - (180600 : Int32).toNatClampNeg - (64 : Int32).toNatClampNeg - (64 : Int32).toNatClampNeg - (64 : Int32).toNatClampNeg - (64 : Int32).toNatClampNeg - (64 : Int32).toNatClampNeg - (64 : Int32).toNatClampNeg) ∧ ∀ M78 : eM, M78 = e_new M77 20 (64 : Int32).toNatClampNeg → e_ob M78 l0 12 ∧ ∀ M79 : eM, M79 = e_sr M78 l0 67 M77.1 → ¬ (512 : Int32) < 0 ∧ (512 : Int32).toNatClampNeg ≤ 400000 ∧ 1 ≤ (kc - 1 - 1 - 1 - 1 - 1 - 1 - 1 - 1 - 1 - 1 - 1 - 1 - 1 - 1 - 1 - 1 - 1 - 1 - 1 - 1 - 1 - 1 - 1 - 1 - 1 - 1 - 1 - 1 - 1 - 1 - 1 - 1 - 1 - 1 - 1 - 1 - 1) ∧ (512 : Int32).toNatClampNeg ≤ (ks - (1500 : Int32).toNatClampNeg - (1500 : Int32).toNatClampNeg - (1500 : Int32).toNatClampNeg - (8 : Int32).toNatClampNeg - (8 : Int32).toNatClampNeg - (64 : Int32).toNatClampNeg - (8 : Int32).toNatClampNeg - (24 : Int32).toNatClampNeg - (8 : Int32).toNatClampNeg - (16 : Int32).toNatClampNeg - (64 : Int32).toNatClampNeg - (16 : Int32).toNatClampNeg - (16 : Int32).toNatClampNeg - (16 : Int32).toNatClampNeg - (16 : Int32).toNatClampNeg - (1920 : Int32).toNatClampNeg - (1920 : Int32).toNatClampNeg - (64 : Int32).toNatClampNeg - (1920 : Int32).toNatClampNeg - (30720 : Int32).toNatClampNeg - (16 : Int32).toNatClampNeg - (100 : Int32).toNatClampNeg - (500 : Int32).toNatClampNeg - (16 : Int32).toNatClampNeg - (16 : Int32).toNatClampNeg - (15360 : Int32).toNatClampNeg - (1500 : Int32).toNatClampNeg - (101 : Int32).toNatClampNeg - (101 : Int32).toNatClampNeg - (180600 : Int32).toNatClampNeg - (64 : Int32).toNatClampNeg - (64 : Int32).toNatClampNeg - (64 : Int32).toNatClampNeg - (64 : Int32).toNatClampNeg - (64 : Int32).toNatClampNeg - (64 : Int32).toNatClampNeg - (64 : Int32).toNatClampNeg) ∧ ∀ M80 : eM, M80 = e_new M79 20 (512 : Int32).toNatClampNeg → e_ob M80 l0 12 ∧ ∀ M81 : eM, M81 = e_sr M80 l0 68 M79.1 → ¬ (512 : Int32) < 0 ∧ (512 : Int32).toNatClampNeg ≤ 400000 ∧ 1 ≤ (kc - 1 - 1 - 1 - 1 - 1 - 1 - 1 - 1 - 1 - 1 - 1 - 1 - 1 - 1 - 1 - 1 - 1 - 1 - 1 - 1 - 1 - 1 - 1 - 1 - 1 - 1 - 1 - 1 - 1 - 1 - 1 - 1 - 1 - 1 - 1 - 1 - 1 - 1) ∧ (512 : Int32).toNatClampNeg ≤ (ks - (1500 : Int32).toNatClampNeg - (1500 : Int32).toNatClampNeg - (1500 : Int32).toNatClampNeg - (8 : Int32).toNatClampNeg - (8 : Int32).toNatClampNeg - (64 : Int32).toNatClampNeg - (8 : Int32).toNatClampNeg - (24 : Int32).toNatClampNeg - (8 : Int32).toNatClampNeg - (16 : Int32).toNatClampNeg - (64 : Int32).toNatClampNeg - (16 : Int32).toNatClampNeg - (16 : Int32).toNatClampNeg - (16 : Int32).toNatClampNeg - (16 : Int32).toNatClampNeg - (1920 : Int32).toNatClampNeg - (1920 : Int32).toNatClampNeg - (64 : Int32).toNatClampNeg - (1920 : Int32).toNatClampNeg - (30720 : Int32).toNatClampNeg - (16 : Int32).toNatClampNeg - (100 : Int32).toNatClampNeg - (500 : Int32).toNatClampNeg - (16 : Int32).toNatClampNeg - (16 : Int32).toNatClampNeg - (15360 : Int32).toNatClampNeg - (1500 : Int32).toNatClampNeg - (101 : Int32).toNatClampNeg - (101 : Int32).toNatClampNeg - (180600 : Int32).toNatClampNeg - (64 : Int32).toNatClampNeg - (64 : Int32).toNatClampNeg - (64 : Int32).toNatClampNeg - (64 : Int32).toNatClampNeg - (64 : Int32).toNatClampNeg - (64 : Int32).toNatClampNeg - (64 : Int32).toNatClampNeg - (512 : Int32).toNatClampNeg) ∧ ∀ M82 : eM, M82 = e_new M81 20 (512 : Int32).toNatClampNeg → e_ob M82 l0 12 ∧ ∀ M83 : eM, M83 = e_sr M82 l0 69 M81.1 → ¬ (2100 : Int32) < 0 ∧ (2100 : Int32).toNatClampNeg ≤ 400000 ∧ 1 ≤ (kc - 1 - 1 - 1 - 1 - 1 - 1 - 1 - 1 - 1 - 1 - 1 - 1 - 1 - 1 - 1 - 1 - 1 - 1 - 1 - 1 - 1 - 1 - 1 - 1 - 1 - 1 - 1 - 1 - 1 - 1 - 1 - 1 - 1 - 1 - 1 - 1 - 1 - 1 - 1) ∧ (2100 : Int32).toNatClampNeg ≤ (ks - (1500 : Int32).toNatClampNeg - (1500 : Int32).toNatClampNeg - (1500 : Int32).toNatClampNeg - (8 : Int32).toNatClampNeg - (8 : Int32).toNatClampNeg - (64 : Int32).toNatClampNeg - (8 : Int32).toNatClampNeg - (24 : Int32).toNatClampNeg - (8 : Int32).toNatClampNeg - (16 : Int32).toNatClampNeg - (64 : Int32).toNatClampNeg - (16 : Int32).toNatClampNeg - (16 : Int32).toNatClampNeg - (16 : Int32).toNatClampNeg - (16 : Int32).toNatClampNeg - (1920 : Int32).toNatClampNeg - (1920 : Int32).toNatClampNeg - (64 : Int32).toNatClampNeg - (1920 : Int32).toNatClampNeg - (30720 : Int32).toNatClampNeg - (16 : Int32).toNatClampNeg - (100 : Int32).toNatClampNeg - (500 : Int32).toNatClampNeg - (16 : Int32).toNatClampNeg - (16 : Int32).toNatClampNeg - (15360 : Int32).toNatClampNeg - (1500 : Int32).toNatClampNeg - (101 : Int32).toNatClampNeg - (101 : Int32).toNatClampNeg - (180600 : Int32).toNatClampNeg - (64 : Int32).toNatClampNeg - (64 : Int32).toNatClampNeg - (64 : Int32).toNatClampNeg - (64 : Int32).toNatClampNeg - (64 : Int32).toNatClampNeg - (64 : Int32).toNatClampNeg - (64 : Int32).toNatClampNeg - (512 : Int32).toNatClampNeg - (512 : Int32).toNatClampNeg) ∧ ∀ M84 : eM, M84 = e_new M83 20 (2100 : Int32).toNatClampNeg → e_ob M84 l0 12 ∧ ∀ M85 : eM, M85 = e_sr M84 l0 74 M83.1 → ¬ (2100 : Int32) < 0 ∧ (2100 : Int32).toNatClampNeg ≤ 400000 ∧ 1 ≤ (kc - 1 - 1 - 1 - 1 - 1 - 1 - 1 - 1 - 1 - 1 - 1 - 1 - 1 - 1 - 1 - 1 - 1 - 1 - 1 - 1 - 1 - 1 - 1 - 1 - 1 - 1 - 1 - 1 - 1 - 1 - 1 - 1 - 1 - 1 - 1 - 1 - 1 - 1 - 1 - 1) ∧ (2100 : Int32).toNatClampNeg ≤ (ks - (1500 : Int32).toNatClampNeg - (1500 : Int32).toNatClampNeg - (1500 : Int32).toNatClampNeg - (8 : Int32).toNatClampNeg - (8 : Int32).toNatClampNeg - (64 : Int32).toNatClampNeg - (8 : Int32).toNatClampNeg - (24 : Int32).toNatClampNeg - (8 : Int32).toNatClampNeg - (16 : Int32).toNatClampNeg - (64 : Int32).toNatClampNeg - (16 : Int32).toNatClampNeg - (16 : Int32).toNatClampNeg - (16 : Int32).toNatClampNeg - (16 : Int32).toNatClampNeg - (1920 : Int32).toNatClampNeg - (1920 : Int32).toNatClampNeg - (64 : Int32).toNatClampNeg - (1920 : Int32).toNatClampNeg - (30720 : Int32).toNatClampNeg - (16 : Int32).toNatClampNeg - (100 : Int32).toNatClampNeg - (500 : Int32).toNatClampNeg - (16 : Int32).toNatClampNeg - (16 : Int32).toNatClampNeg - (15360 : Int32).toNatClampNeg - (1500 : Int32).toNatClampNeg - (101 : Int32).toNatClampNeg - (101 : Int32).toNatClampNeg - (180600 : Int32).toNatClampNeg - (64 : Int32).toNatClampNeg - (64 : Int32).toNatClampNeg - (64 : Int32).toNatClampNeg - (64 : Int32).toNatClampNeg - (64 : Int32).toNatClampNeg - (64 : Int32).toNatClampNeg - (64 : Int32).toNatClampNeg - (512 : Int32).toNatClampNeg - (512 : Int32).toNatClampNeg - (2100 : Int32).toNatClampNeg) ∧ ∀ M86 : eM, M86 = e_new M85 20 (2100 : Int32).toNatClampNeg → e_ob M86 l0 12 ∧ ∀ M87 : eM, M87 = e_sr M86 l0 75 M85.1 → ¬ (2100 : Int32) < 0 ∧ (2100 : Int32).toNatClampNeg ≤ 400000 ∧ 1 ≤ (kc - 1 - 1 - 1 - 1 - 1 - 1 - 1 - 1 - 1 - 1 - 1 - 1 - 1 - 1 - 1 - 1 - 1 - 1 - 1 - 1 - 1 - 1 - 1 - 1 - 1 - 1 - 1 - 1 - 1 - 1 - 1 - 1 - 1 - 1 - 1 - 1 - 1 - 1 - 1 - 1 - 1) ∧ (2100 : Int32).toNatClampNeg ≤ (ks - (1500 : Int32).toNatClampNeg - (1500 : Int32).toNatClampNeg - (1500 : Int32).toNatClampNeg - (8 : Int32).toNatClampNeg - (8 : Int32).toNatClampNeg - (64 : Int32).toNatClampNeg - (8 : Int32).toNatClampNeg - (24 : Int32).toNatClampNeg - (8 : Int32).toNatClampNeg - (16 : Int32).toNatClampNeg - (64 : Int32).toNatClampNeg - (16 : Int32).toNatClampNeg - (16 : Int32).toNatClampNeg - (16 : Int32).toNatClampNeg - (16 : Int32).toNatClampNeg - (1920 : Int32).toNatClampNeg - (1920 : Int32).toNatClampNeg - (64 : Int32).toNatClampNeg - (1920 : Int32).toNatClampNeg - (30720 : Int32).toNatClampNeg - (16 : Int32).toNatClampNeg - (100 : Int32).toNatClampNeg - (500 : Int32).toNatClampNeg - (16 : Int32).toNatClampNeg - (16 : Int32).toNatClampNeg - (15360 : Int32).toNatClampNeg - (1500 : Int32).toNatClampNeg - (101 : Int32).toNatClampNeg - (101 : Int32).toNatClampNeg - (180600 : Int32).toNatClampNeg - (64 : Int32).toNatClampNeg - (64 : Int32).toNatClampNeg - (64 : Int32).toNatClampNeg - (64 : Int32).toNatClampNeg - (64 : Int32).toNatClampNeg - (64 : Int32).toNatClampNeg - (64 : Int32).toNatClampNeg - (512 : Int32).toNatClampNeg - (512 : Int32).toNatClampNeg - (2100 : Int32).toNatClampNeg - (2100 : Int32).toNatClampNeg) ∧ ∀ M88 : eM, M88 = e_new M87 20 (2100 : Int32).toNatClampNeg → e_ob M88 l0 12 ∧ ∀ M89 : eM, M89 = e_sr M88 l0 76 M87.1 → ¬ (2100 : Int32) < 0 ∧ (2100 : Int32).toNatClampNeg ≤ 400000 ∧ 1 ≤ (kc - 1 - 1 - 1 - 1 - 1 - 1 - 1 - 1 - 1 - 1 - 1 - 1 - 1 - 1 - 1 - 1 - 1 - 1 - 1 - 1 - 1 - 1 - 1 - 1 - 1 - 1 - 1 - 1 - 1 - 1 - 1 - 1 - 1 - 1 - 1 - 1 - 1 - 1 - 1 - 1 - 1 - 1) ∧ (2100 : Int32).toNatClampNeg ≤ (ks - (1500 : Int32).toNatClampNeg - (1500 : Int32).toNatClampNeg - (1500 : Int32).toNatClampNeg - (8 : Int32).toNatClampNeg - (8 : Int32).toNatClampNeg - (64 : Int32).toNatClampNeg - (8 : Int32).toNatClampNeg - (24 : Int32).toNatClampNeg - (8 : Int32).toNatClampNeg - (16 : Int32).toNatClampNeg - (64 : Int32).toNatClampNeg - (16 : Int32).toNatClampNeg - (16 : Int32).toNatClampNeg - (16 : Int32).toNatClampNeg - (16 : Int32).toNatClampNeg - (1920 : Int32).toNatClampNeg - (1920 : Int32).toNatClampNeg - (64 : Int32).toNatClampNeg - (1920 : Int32).toNatClampNeg - (30720 : Int32).toNatClampNeg - (16 : Int32).toNatClampNeg - (100 : Int32).toNatClampNeg - (500 : Int32).toNatClampNeg - (16 : Int32).toNatClampNeg - (16 : Int32).toNatClampNeg - (15360 : Int32).toNatClampNeg - (1500 : Int32).toNatClampNeg - (101 : Int32).toNatClampNeg - (101 : Int32).toNatClampNeg - (180600 : Int32).toNatClampNeg - (64 : Int32).toNatClampNeg - (64 : Int32).toNatClampNeg - (64 : Int32).toNatClampNeg - (64 : Int32).toNatClampNeg - (64 : Int32).toNatClampNeg - (64 : Int32).toNatClampNeg - (64 : Int32).toNatClampNeg - (512 : Int32).toNatClampNeg - (512 : Int32).toNatClampNeg - (2100 : Int32).toNatClampNeg - (2100 : Int32).toNatClampNeg - (2100 : Int32).toNatClampNeg) ∧ ∀ M90 : eM, M90 = e_new M89 20 (2100 : Int32).toNatClampNeg → e_ob M90 l0 12 ∧ ∀ M91 : eM, M91 = e_sr M90 l0 77 M89.1 → ¬ (2100 : Int32) < 0 ∧ (2100 : Int32).toNatClampNeg ≤ 400000 ∧ 1 ≤ (kc - 1 - 1 - 1 - 1 - 1 - 1 - 1 - 1 - 1 - 1 - 1 - 1 - 1 - 1 - 1 - 1 - 1 - 1 - 1 - 1 - 1 - 1 - 1 - 1 - 1 - 1 - 1 - 1 - 1 - 1 - 1 - 1 - 1 - 1 - 1 - 1 - 1 - 1 - 1 - 1 - 1 - 1 - 1) ∧ (2100 : Int32).toNatClampNeg ≤ (ks - (1500 : Int32).toNatClampNeg - (1500 : Int32).toNatClampNeg - (1500 : Int32).toNatClampNeg - (8 : Int32).toNatClampNeg - (8 : Int32).toNatClampNeg - (64 : Int32).toNatClampNeg - (8 : Int32).toNatClampNeg - (24 : Int32).toNatClampNeg - (8 : Int32).toNatClampNeg - (16 : Int32).toNatClampNeg - (64 : Int32).toNatClampNeg - (16 : Int32).toNatClampNeg - (16 : Int32).toNatClampNeg - (16 : Int32).toNatClampNeg - (16 : Int32).toNatClampNeg - (1920 : Int32).toNatClampNeg - (1920 : Int32).toNatClampNeg - (64 : Int32).toNatClampNeg - (1920 : Int32).toNatClampNeg - (30720 : Int32).toNatClampNeg - (16 : Int32).toNatClampNeg - (100 : Int32).toNatClampNeg - (500 : Int32).toNatClampNeg - (16 : Int32).toNatClampNeg - (16 : Int32).toNatClampNeg - (15360 : Int32).toNatClampNeg - (1500 : Int32).toNatClampNeg - (101 : Int32).toNatClampNeg - (101 : Int32).toNatClampNeg - (180600 : Int32).toNatClampNeg - (64 : Int32).toNatClampNeg - (64 : Int32).toNatClampNeg - (64 : Int32).toNatClampNeg - (64 : Int32).toNatClampNeg - (64 : Int32).toNatClampNeg - (64 : Int32).toNatClampNeg - (64 : Int32).toNatClampNeg - (512 : Int32).toNatClampNeg - (512 : Int32).toNatClampNeg - (2100 : Int32).toNatClampNeg - (2100 : Int32).toNatClampNeg - (2100 : Int32).toNatClampNeg - (2100 : Int32).toNatClampNeg) ∧ ∀ M92 : eM, M92 = e_new M91 22 (2100 : Int32).toNatClampNeg → e_ob M92 l0 12 ∧ ∀ M93 : eM, M93 = e_sr M92 l0 78 M91.1 → ¬ (4100 : Int32) < 0 ∧ (4100 : Int32).toNatClampNeg ≤ 400000 ∧ 1 ≤ (kc - 1 - 1 - 1 - 1 - 1 - 1 - 1 - 1 - 1 - 1 - 1 - 1 - 1 - 1 - 1 - 1 - 1 - 1 - 1 - 1 - 1 - 1 - 1 - 1 - 1 - 1 - 1 - 1 - 1 - 1 - 1 - 1 - 1 - 1 - 1 - 1 - 1 - 1 - 1 - 1 - 1 - 1 - 1 - 1) ∧ (4100 : Int32).toNatClampNeg ≤ (ks - (1500 : Int32).toNatClampNeg - (1500 : Int32).toNatClampNeg - (1500 : Int32).toNatClampNeg - (8 : Int32).toNatClampNeg - (8 : Int32).toNatClampNeg - (64 : Int32).toNatClampNeg - (8 : Int32).toNatClampNeg - (24 : Int32).toNatClampNeg - (8 : Int32).toNatClampNeg - (16 : Int32).toNatClampNeg - (64 : Int32).toNatClampNeg - (16 : Int32).toNatClampNeg - (16 : Int32).toNatClampNeg - (16 : Int32).toNatClampNeg - (16 : Int32).toNatClampNeg - (1920 : Int32).toNatClampNeg - (1920 : Int32).toNatClampNeg - (64 : Int32).toNatClampNeg - (1920 : Int32).toNatClampNeg - (30720 : Int32).toNatClampNeg - (16 : Int32).toNatClampNeg - (100 : Int32).toNatClampNeg - (500 : Int32).toNatClampNeg - (16 : Int32).toNatClampNeg - (16 : Int32).toNatClampNeg - (15360 : Int32).toNatClampNeg - (1500 : Int32).toNatClampNeg - (101 : Int32).toNatClampNeg - (101 : Int32).toNatClampNeg - (180600 : Int32).toNatClampNeg - (64 : Int32).toNatClampNeg - (64 : Int32).toNatClampNeg - (64 : Int32).toNatClampNeg - (64 : Int32).toNatClampNeg - (64 : Int32).toNatClampNeg - (64 : Int32).toNatClampNeg - (64 : Int32).toNatClampNeg - (512 : Int32).toNatClampNeg - (512 : Int32).toNatClampNeg - (2100 : Int32).toNatClampNeg - (2100 : Int32).toNatClampNeg - (2100 : Int32).toNatClampNeg - (2100 : Int32).toNatClampNeg - (2100 : Int32).toNatClampNeg) ∧ ∀ M94 : eM, M94 = e_new M93 20 (4100 : Int32).toNatClampNeg → e_ob M94 l0 12 ∧ ∀ M95 : eM, M95 = e_sr M94 l0 80 M93.1 → ¬ (6 : Int32) < 0 ∧ (6 : Int32).toNatClampNeg ≤ 400000 ∧ 1 ≤ (kc - 1 - 1 - 1 - 1 - 1 - 1 - 1 - 1 - 1 - 1 - 1 - 1 - 1 - 1 - 1 - 1 - 1 - 1 - 1 - 1 - 1 - 1 - 1 - 1 - 1 - 1 - 1 - 1 - 1 - 1 - 1 - 1 - 1 - 1 - 1 - 1 - 1 - 1 - 1 - 1 - 1 - 1 - 1 - 1 - 1) ∧ (6 : Int32).toNatClampNeg ≤ (ks - (1500 : Int32).toNatClampNeg - (1500 : Int32).toNatClampNeg - (1500 : Int32).toNatClampNeg - (8 : Int32).toNatClampNeg - (8 : Int32).toNatClampNeg - (64 : Int32).toNatClampNeg - (8 : Int32).toNatClampNeg - (24 : Int32).toNatClampNeg - (8 : Int32).toNatClampNeg - (16 : Int32).toNatClampNeg - (64 : Int32).toNatClampNeg - (16 : Int32).toNatClampNeg - (16 : Int32).toNatClampNeg - (16 : Int32).toNatClampNeg - (16 : Int32).toNatClampNeg - (1920 : Int32).toNatClampNeg - (1920 : Int32).toNatClampNeg - (64 : Int32).toNatClampNeg - (1920 : Int32).toNatClampNeg - (30720 : Int32).toNatClampNeg - (16 : Int32).toNatClampNeg - (100 : Int32).toNatClampNeg - (500 : Int32).toNatClampNeg - (16 : Int32).toNatClampNeg - (16 : Int32).toNatClampNeg - (15360 : Int32).toNatClampNeg - (1500 : Int32).toNatClampNeg - (101 : Int32).toNatClampNeg - (101 : Int32).toNatClampNeg - (180600 : Int32).toNatClampNeg - (64 : Int32).toNatClampNeg - (64 : Int32).toNatClampNeg - (64 : Int32).toNatClampNeg - (64 : Int32).toNatClampNeg - (64 : Int32).toNatClampNeg - (64 : Int32).toNatClampNeg - (64 : Int32).toNatClampNeg - (512 : Int32).toNatClampNeg - (512 : Int32).toNatClampNeg - (2100 : Int32).toNatClampNeg - (2100 : Int32).toNatClampNeg - (2100 : Int32).toNatClampNeg - (2100 : Int32).toNatClampNeg - (2100 : Int32).toNatClampNeg - (4100 : Int32).toNatClampNeg) ∧ ∀ M96 : eM, M96 = e_new M95 20 (6 : Int32).toNatClampNeg → e_ob M96 l0 12 ∧ ∀ M97 : eM, M97 = e_sr M96 l0 83 M95.1 → ¬ (6 : Int32) < 0 ∧ (6 : Int32).toNatClampNeg ≤ 400000 ∧ 1 ≤ (kc - 1 - 1 - 1 - 1 - 1 - 1 - 1 - 1 - 1 - 1 - 1 - 1 - 1 - 1 - 1 - 1 - 1 - 1 - 1 - 1 - 1 - 1 - 1 - 1 - 1 - 1 - 1 - 1 - 1 - 1 - 1 - 1 - 1 - 1 - 1 - 1 - 1 - 1 - 1 - 1 - 1 - 1 - 1 - 1 - 1 - 1) ∧ (6 : Int32).toNatClampNeg ≤ (ks - (1500 : Int32).toNatClampNeg - (1500 : Int32).toNatClampNeg - (1500 : Int32).toNatClampNeg - (8 : Int32).toNatClampNeg - (8 : Int32).toNatClampNeg - (64 : Int32).toNatClampNeg - (8 : Int32).toNatClampNeg - (24 : Int32).toNatClampNeg - (8 : Int32).toNatClampNeg - (16 : Int32).toNatClampNeg - (64 : Int32).toNatClampNeg - (16 : Int32).toNatClampNeg - (16 : Int32).toNatClampNeg - (16 : Int32).toNatClampNeg - (16 : Int32).toNatClampNeg - (1920 : Int32).toNatClampNeg - (1920 : Int32).toNatClampNeg - (64 : Int32).toNatClampNeg - (1920 : Int32).toNatClampNeg - (30720 : Int32).toNatClampNeg - (16 : Int32).toNatClampNeg - (100 : Int32).toNatClampNeg - (500 : Int32).toNatClampNeg - (16 : Int32).toNatClampNeg - (16 : Int32).toNatClampNeg - (15360 : Int32).toNatClampNeg - (1500 : Int32).toNatClampNeg - (101 : Int32).toNatClampNeg - (101 : Int32).toNatClampNeg - (180600 : Int32).toNatClampNeg - (64 : Int32).toNatClampNeg - (64 : Int32).toNatClampNeg - (64 : Int32).toNatClampNeg - (64 : Int32).toNatClampNeg - (64 : Int32).toNatClampNeg - (64 : Int32).toNatClampNeg - (64 : Int32).toNatClampNeg - (512 : Int32).toNatClampNeg - (512 : Int32).toNatClampNeg - (2100 : Int32).toNatClampNeg - (2100 : Int32).toNatClampNeg - (2100 : Int32).toNatClampNeg - (2100 : Int32).toNatClampNeg - (2100 : Int32).toNatClampNeg - (4100 : Int32).toNatClampNeg - (6 : Int32).toNatClampNeg) ∧ ∀ M98 : eM, M98 = e_new M97 20 (6 : Int32).toNatClampNeg → e_ob M98 l0 12 ∧ ∀ M99 : eM, M99 = e_sr M98 l0 84 M97.1 → ¬ (6 : Int32) < 0 ∧ (6 : Int32).toNatClampNeg ≤ 400000 ∧ 1 ≤ (kc - 1 - 1 - 1 - 1 - 1 - 1 - 1 - 1 - 1 - 1 - 1 - 1 - 1 - 1 - 1 - 1 - 1 - 1 - 1 - 1 - 1 - 1 - 1 - 1 - 1 - 1 - 1 - 1 - 1 - 1 - 1 - 1 - 1 - 1 - 1 - 1 - 1 - 1 - 1 - 1 - 1 - 1 - 1 - 1 - 1 - 1 - 1) ∧ (6 : Int32).toNatClampNeg ≤ (ks - (1500 : Int32).toNatClampNeg - (1500 : Int32).toNatClampNeg - (1500 : Int32).toNatClampNeg - (8 : Int32).toNatClampNeg - (8 : Int32).toNatClampNeg - (64 : Int32).toNatClampNeg - (8 : Int32).toNatClampNeg - (24 : Int32).toNatClampNeg - (8 : Int32).toNatClampNeg - (16 : Int32).toNatClampNeg - (64 : Int32).toNatClampNeg - (16 : Int32).toNatClampNeg - (16 : Int32).toNatClampNeg - (16 : Int32).toNatClampNeg - (16 : Int32).toNatClampNeg - (1920 : Int32).toNatClampNeg - (1920 : Int32).toNatClampNeg - (64 : Int32).toNatClampNeg - (1920 : Int32).toNatClampNeg - (30720 : Int32).toNatClampNeg - (16 : Int32).toNatClampNeg - (100 : Int32).toNatClampNeg - (500 : Int32).toNatClampNeg - (16 : Int32).toNatClampNeg - (16 : Int32).toNatClampNeg - (15360 : Int32).toNatClampNeg - (1500 : Int32).toNatClampNeg - (101 : Int32).toNatClampNeg - (101 : Int32).toNatClampNeg - (180600 : Int32).toNatClampNeg - (64 : Int32).toNatClampNeg - (64 : Int32).toNatClampNeg - (64 : Int32).toNatClampNeg - (64 : Int32).toNatClampNeg - (64 : Int32).toNatClampNeg - (64 : Int32).toNatClampNeg - (64 : Int32).toNatClampNeg - (512 : Int32).toNatClampNeg - (512 : Int32).toNatClampNeg - (2100 : Int32).toNatClampNeg - (2100 : Int32).toNatClampNeg - (2100 : Int32).toNatClampNeg - (2100 : Int32).toNatClampNeg - (2100 : Int32).toNatClampNeg - (4100 : Int32).toNatClampNeg - (6 : Int32).toNatClampNeg - (6 : Int32).toNatClampNeg) ∧ ∀ M100 : eM, M100 = e_new M99 20 (6 : Int32).toNatClampNeg → e_ob M100 l0 12 ∧ ∀ M101 : eM, M101 = e_sr M100 l0 85 M99.1 → ¬ (2100 : Int32) < 0 ∧ (2100 : Int32).toNatClampNeg ≤ 400000 ∧ 1 ≤ (kc - 1 - 1 - 1 - 1 - 1 - 1 - 1 - 1 - 1 - 1 - 1 - 1 - 1 - 1 - 1 - 1 - 1 - 1 - 1 - 1 - 1 - 1 - 1 - 1 - 1 - 1 - 1 - 1 - 1 - 1 - 1 - 1 - 1 - 1 - 1 - 1 - 1 - 1 - 1 - 1 - 1 - 1 - 1 - 1 - 1 - 1 - 1 - 1) ∧ (2100 : Int32).toNatClampNeg ≤ (ks - (1500 : Int32).toNatClampNeg - (1500 : Int32).toNatClampNeg - (1500 : Int32).toNatClampNeg - (8 : Int32).toNatClampNeg - (8 : Int32).toNatClampNeg - (64 : Int32).toNatClampNeg - (8 : Int32).toNatClampNeg - (24 : Int32).toNatClampNeg - (8 : Int32).toNatClampNeg - (16 : Int32).toNatClampNeg - (64 : Int32).toNatClampNeg - (16 : Int32).toNatClampNeg - (16 : Int32).toNatClampNeg - (16 : Int32).toNatClampNeg - (16 : Int32).toNatClampNeg - (1920 : Int32).toNatClampNeg - (1920 : Int32).toNatClampNeg - (64 : Int32).toNatClampNeg - (1920 : Int32).toNatClampNeg - (30720 : Int32).toNatClampNeg - (16 : Int32).toNatClampNeg - (100 : Int32).toNatClampNeg - (500 : Int32).toNatClampNeg - (16 : Int32).toNatClampNeg - (16 : Int32).toNatClampNeg - (15360 : Int32).toNatClampNeg - (1500 : Int32).toNatClampNeg - (101 : Int32).toNatClampNeg - (101 : Int32).toNatClampNeg - (180600 : Int32).toNatClampNeg - (64 : Int32).toNatClampNeg - (64 : Int32).toNatClampNeg - (64 : Int32).toNatClampNeg - (64 : Int32).toNatClampNeg - (64 : Int32).toNatClampNeg - (64 : Int32).toNatClampNeg - (64 : Int32).toNatClampNeg - (512 : Int32).toNatClampNeg - (512 : Int32).toNatClampNeg - (2100 : Int32).toNatClampNeg - (2100 : Int32).toNatClampNeg - (2100 : Int32).toNatClampNeg - (2100 : Int32).toNatClampNeg - (2100 : Int32).toNatClampNeg - (4100 : Int32).toNatClampNeg - (6 : Int32).toNatClampNeg - (6 : Int32).toNatClampNeg - (6 : Int32).toNatClampNeg) ∧ ∀ M102 : eM, M102 = e_new M101 20 (2100 : Int32).toNatClampNeg → e_ob M102 l0 12 ∧ ∀ M103 : eM, M103 = e_sr M102 l0 89 M101.1 → Q M103
set_option maxRecDepth 100000 in
theorem b_Mod_init {d : Nat} {kc ks : Nat} {l0 : Nat} {M : eM} {Q : eM → Prop} (hd : 0 ≤ d) (h : w_Mod_init kc ks l0 M Q) : e_CV 47 d kc ks [.ref l0] M Q := by
  unfold w_Mod_init at h
  show e_E 47 d kc ks 0 [(0, .ref l0)] [] M (e_QV Q)
  refine r_aload_n (kd47 rfl) rfl rfl ?_
  obtain ⟨g, h⟩ := h
  refine r_objInit (kd47 rfl) g (Nat.le_of_ble_eq_true rfl) rfl ?_
  refine r_aload_n (kd47 rfl) rfl rfl ?_
  refine r_sipush (kd47 rfl) (y := 1500) (by decide) rfl ?_
  obtain ⟨g0, g3, g1, g2, h⟩ := h
  have h := h _ rfl
  refine r_newarray (kd47 rfl) (by decide) g0 g3 g1 g2 rfl ?_
  obtain ⟨g, h⟩ := h
  have h := h _ rfl
  refine r_put2 (kd47 rfl) (by decide) rfl g rfl ?_
  refine r_aload_n (kd47 rfl) rfl rfl ?_
  refine r_sipush (kd47 rfl) (y := 1500) (by decide) rfl ?_
  obtain ⟨g0, g3, g1, g2, h⟩ := h
  have h := h _ rfl
  refine r_newarray (kd47 rfl) (by decide) g0 g3 g1 g2 rfl ?_
  obtain ⟨g, h⟩ := h
  have h := h _ rfl
  refine r_put2 (kd47 rfl) (by decide) rfl g rfl ?_
  refine r_aload_n (kd47 rfl) rfl rfl ?_
  refine r_sipush (kd47 rfl) (y := 1500) (by decide) rfl ?_
  obtain ⟨g0, g3, g1, g2, h⟩ := h
  have h := h _ rfl
  refine r_newarray (kd47 rfl) (by decide) g0 g3 g1 g2 rfl ?_
  obtain ⟨g, h⟩ := h
  have h := h _ rfl
  refine r_put2 (kd47 rfl) (by decide) rfl g rfl ?_
  refine r_aload_n (kd47 rfl) rfl rfl ?_
  refine r_bipush (kd47 rfl) (y := 8) (by decide) rfl ?_
  obtain ⟨g0, g3, g1, g2, h⟩ := h
  have h := h _ rfl
  refine r_newarray (kd47 rfl) (by decide) g0 g3 g1 g2 rfl ?_
  obtain ⟨g, h⟩ := h
  have h := h _ rfl
  refine r_put2 (kd47 rfl) (by decide) rfl g rfl ?_
  refine r_aload_n (kd47 rfl) rfl rfl ?_
  refine r_bipush (kd47 rfl) (y := 8) (by decide) rfl ?_
  obtain ⟨g0, g3, g1, g2, h⟩ := h
  have h := h _ rfl
  refine r_newarray (kd47 rfl) (by decide) g0 g3 g1 g2 rfl ?_
  obtain ⟨g, h⟩ := h
  have h := h _ rfl
  refine r_put2 (kd47 rfl) (by decide) rfl g rfl ?_
  refine r_aload_n (kd47 rfl) rfl rfl ?_
  refine r_bipush (kd47 rfl) (y := 64) (by decide) rfl ?_
  obtain ⟨g0, g3, g1, g2, h⟩ := h
  have h := h _ rfl
  refine r_newarray (kd47 rfl) (by decide) g0 g3 g1 g2 rfl ?_
  obtain ⟨g, h⟩ := h
  have h := h _ rfl
  refine r_put2 (kd47 rfl) (by decide) rfl g rfl ?_
  refine r_aload_n (kd47 rfl) rfl rfl ?_
  refine r_bipush (kd47 rfl) (y := 8) (by decide) rfl ?_
  obtain ⟨g0, g3, g1, g2, h⟩ := h
  have h := h _ rfl
  refine r_newarray (kd47 rfl) (by decide) g0 g3 g1 g2 rfl ?_
  obtain ⟨g, h⟩ := h
  have h := h _ rfl
  refine r_put2 (kd47 rfl) (by decide) rfl g rfl ?_
  refine r_aload_n (kd47 rfl) rfl rfl ?_
  refine r_bipush (kd47 rfl) (y := 24) (by decide) rfl ?_
  obtain ⟨g0, g3, g1, g2, h⟩ := h
  have h := h _ rfl
  refine r_newarray (kd47 rfl) (by decide) g0 g3 g1 g2 rfl ?_
  obtain ⟨g, h⟩ := h
  have h := h _ rfl
  refine r_put2 (kd47 rfl) (by decide) rfl g rfl ?_
  refine r_aload_n (kd47 rfl) rfl rfl ?_
  refine r_bipush (kd47 rfl) (y := 8) (by decide) rfl ?_
  obtain ⟨g0, g3, g1, g2, h⟩ := h
  have h := h _ rfl
  refine r_newarray (kd47 rfl) (by decide) g0 g3 g1 g2 rfl ?_
  obtain ⟨g, h⟩ := h
  have h := h _ rfl
  refine r_put2 (kd47 rfl) (by decide) rfl g rfl ?_
  refine r_aload_n (kd47 rfl) rfl rfl ?_
  refine r_bipush (kd47 rfl) (y := 16) (by decide) rfl ?_
  obtain ⟨g0, g3, g1, g2, h⟩ := h
  have h := h _ rfl
  refine r_newarray (kd47 rfl) (by decide) g0 g3 g1 g2 rfl ?_
  obtain ⟨g, h⟩ := h
  have h := h _ rfl
  refine r_put2 (kd47 rfl) (by decide) rfl g rfl ?_
  refine r_aload_n (kd47 rfl) rfl rfl ?_
  refine r_bipush (kd47 rfl) (y := 64) (by decide) rfl ?_
  obtain ⟨g0, g3, g1, g2, h⟩ := h
  have h := h _ rfl
  refine r_newarray (kd47 rfl) (by decide) g0 g3 g1 g2 rfl ?_
  obtain ⟨g, h⟩ := h
  have h := h _ rfl
  refine r_put2 (kd47 rfl) (by decide) rfl g rfl ?_
  refine r_aload_n (kd47 rfl) rfl rfl ?_
  refine r_bipush (kd47 rfl) (y := 16) (by decide) rfl ?_
  obtain ⟨g0, g3, g1, g2, h⟩ := h
  have h := h _ rfl
  refine r_newarray (kd47 rfl) (by decide) g0 g3 g1 g2 rfl ?_
  obtain ⟨g, h⟩ := h
  have h := h _ rfl
  refine r_put2 (kd47 rfl) (by decide) rfl g rfl ?_
  refine r_aload_n (kd47 rfl) rfl rfl ?_
  refine r_bipush (kd47 rfl) (y := 16) (by decide) rfl ?_
  obtain ⟨g0, g3, g1, g2, h⟩ := h
  have h := h _ rfl
  refine r_newarray (kd47 rfl) (by decide) g0 g3 g1 g2 rfl ?_
  obtain ⟨g, h⟩ := h
  have h := h _ rfl
  refine r_put2 (kd47 rfl) (by decide) rfl g rfl ?_
  refine r_aload_n (kd47 rfl) rfl rfl ?_
  refine r_bipush (kd47 rfl) (y := 16) (by decide) rfl ?_
  obtain ⟨g0, g3, g1, g2, h⟩ := h
  have h := h _ rfl
  refine r_newarray (kd47 rfl) (by decide) g0 g3 g1 g2 rfl ?_
  obtain ⟨g, h⟩ := h
  have h := h _ rfl
  refine r_put2 (kd47 rfl) (by decide) rfl g rfl ?_
  refine r_aload_n (kd47 rfl) rfl rfl ?_
  refine r_bipush (kd47 rfl) (y := 16) (by decide) rfl ?_
  obtain ⟨g0, g3, g1, g2, h⟩ := h
  have h := h _ rfl
  refine r_newarray (kd47 rfl) (by decide) g0 g3 g1 g2 rfl ?_
  obtain ⟨g, h⟩ := h
  have h := h _ rfl
  refine r_put2 (kd47 rfl) (by decide) rfl g rfl ?_
  refine r_aload_n (kd47 rfl) rfl rfl ?_
  refine r_sipush (kd47 rfl) (y := 1920) (by decide) rfl ?_
  obtain ⟨g0, g3, g1, g2, h⟩ := h
  have h := h _ rfl
  refine r_newarray (kd47 rfl) (by decide) g0 g3 g1 g2 rfl ?_
  obtain ⟨g, h⟩ := h
  have h := h _ rfl
  refine r_put2 (kd47 rfl) (by decide) rfl g rfl ?_
  refine r_aload_n (kd47 rfl) rfl rfl ?_
  refine r_sipush (kd47 rfl) (y := 1920) (by decide) rfl ?_
  obtain ⟨g0, g3, g1, g2, h⟩ := h
  have h := h _ rfl
  refine r_newarray (kd47 rfl) (by decide) g0 g3 g1 g2 rfl ?_
  obtain ⟨g, h⟩ := h
  have h := h _ rfl
  refine r_put2 (kd47 rfl) (by decide) rfl g rfl ?_
  refine r_aload_n (kd47 rfl) rfl rfl ?_
  refine r_bipush (kd47 rfl) (y := 64) (by decide) rfl ?_
  obtain ⟨g0, g3, g1, g2, h⟩ := h
  have h := h _ rfl
  refine r_newarray (kd47 rfl) (by decide) g0 g3 g1 g2 rfl ?_
  obtain ⟨g, h⟩ := h
  have h := h _ rfl
  refine r_put2 (kd47 rfl) (by decide) rfl g rfl ?_
  refine r_aload_n (kd47 rfl) rfl rfl ?_
  refine r_sipush (kd47 rfl) (y := 1920) (by decide) rfl ?_
  obtain ⟨g0, g3, g1, g2, h⟩ := h
  have h := h _ rfl
  refine r_newarray (kd47 rfl) (by decide) g0 g3 g1 g2 rfl ?_
  obtain ⟨g, h⟩ := h
  have h := h _ rfl
  refine r_put2 (kd47 rfl) (by decide) rfl g rfl ?_
  refine r_aload_n (kd47 rfl) rfl rfl ?_
  refine r_sipush (kd47 rfl) (y := 30720) (by decide) rfl ?_
  obtain ⟨g0, g3, g1, g2, h⟩ := h
  have h := h _ rfl
  refine r_newarray (kd47 rfl) (by decide) g0 g3 g1 g2 rfl ?_
  obtain ⟨g, h⟩ := h
  have h := h _ rfl
  refine r_put2 (kd47 rfl) (by decide) rfl g rfl ?_
  refine r_aload_n (kd47 rfl) rfl rfl ?_
  refine r_bipush (kd47 rfl) (y := 16) (by decide) rfl ?_
  obtain ⟨g0, g3, g1, g2, h⟩ := h
  have h := h _ rfl
  refine r_newarray (kd47 rfl) (by decide) g0 g3 g1 g2 rfl ?_
  obtain ⟨g, h⟩ := h
  have h := h _ rfl
  refine r_put2 (kd47 rfl) (by decide) rfl g rfl ?_
  refine r_aload_n (kd47 rfl) rfl rfl ?_
  refine r_iconst (kd47 rfl) (y := 3) (by decide) rfl ?_
  obtain ⟨g, h⟩ := h
  have h := h _ rfl
  refine r_put0 (kd47 rfl) (by decide) rfl g rfl ?_
  refine r_aload_n (kd47 rfl) rfl rfl ?_
  refine r_iconst (kd47 rfl) (y := 2) (by decide) rfl ?_
  obtain ⟨g, h⟩ := h
  have h := h _ rfl
  refine r_put0 (kd47 rfl) (by decide) rfl g rfl ?_
  refine r_aload_n (kd47 rfl) rfl rfl ?_
  refine r_iconst (kd47 rfl) (y := 2) (by decide) rfl ?_
  obtain ⟨g, h⟩ := h
  have h := h _ rfl
  refine r_put0 (kd47 rfl) (by decide) rfl g rfl ?_
  refine r_aload_n (kd47 rfl) rfl rfl ?_
  refine r_bipush (kd47 rfl) (y := 40) (by decide) rfl ?_
  obtain ⟨g, h⟩ := h
  have h := h _ rfl
  refine r_put0 (kd47 rfl) (by decide) rfl g rfl ?_
  refine r_aload_n (kd47 rfl) rfl rfl ?_
  refine r_sipush (kd47 rfl) (y := 500) (by decide) rfl ?_
  obtain ⟨g, h⟩ := h
  have h := h _ rfl
  refine r_put0 (kd47 rfl) (by decide) rfl g rfl ?_
  refine r_aload_n (kd47 rfl) rfl rfl ?_
  refine r_bipush (kd47 rfl) (y := 100) (by decide) rfl ?_
  obtain ⟨g0, g3, g1, g2, h⟩ := h
  have h := h _ rfl
  refine r_newarray (kd47 rfl) (by decide) g0 g3 g1 g2 rfl ?_
  obtain ⟨g, h⟩ := h
  have h := h _ rfl
  refine r_put2 (kd47 rfl) (by decide) rfl g rfl ?_
  refine r_aload_n (kd47 rfl) rfl rfl ?_
  refine r_sipush (kd47 rfl) (y := 500) (by decide) rfl ?_
  obtain ⟨g0, g3, g1, g2, h⟩ := h
  have h := h _ rfl
  refine r_newarray (kd47 rfl) (by decide) g0 g3 g1 g2 rfl ?_
  obtain ⟨g, h⟩ := h
  have h := h _ rfl
  refine r_put2 (kd47 rfl) (by decide) rfl g rfl ?_
  refine r_aload_n (kd47 rfl) rfl rfl ?_
  refine r_bipush (kd47 rfl) (y := 16) (by decide) rfl ?_
  obtain ⟨g0, g3, g1, g2, h⟩ := h
  have h := h _ rfl
  refine r_newarray (kd47 rfl) (by decide) g0 g3 g1 g2 rfl ?_
  obtain ⟨g, h⟩ := h
  have h := h _ rfl
  refine r_put2 (kd47 rfl) (by decide) rfl g rfl ?_
  refine r_aload_n (kd47 rfl) rfl rfl ?_
  refine r_bipush (kd47 rfl) (y := 16) (by decide) rfl ?_
  obtain ⟨g0, g3, g1, g2, h⟩ := h
  have h := h _ rfl
  refine r_newarray (kd47 rfl) (by decide) g0 g3 g1 g2 rfl ?_
  obtain ⟨g, h⟩ := h
  have h := h _ rfl
  refine r_put2 (kd47 rfl) (by decide) rfl g rfl ?_
  refine r_aload_n (kd47 rfl) rfl rfl ?_
  refine r_sipush (kd47 rfl) (y := 15360) (by decide) rfl ?_
  obtain ⟨g0, g3, g1, g2, h⟩ := h
  have h := h _ rfl
  refine r_newarray (kd47 rfl) (by decide) g0 g3 g1 g2 rfl ?_
  obtain ⟨g, h⟩ := h
  have h := h _ rfl
  refine r_put2 (kd47 rfl) (by decide) rfl g rfl ?_
  refine r_aload_n (kd47 rfl) rfl rfl ?_
  refine r_sipush (kd47 rfl) (y := 1500) (by decide) rfl ?_
  obtain ⟨g0, g3, g1, g2, h⟩ := h
  have h := h _ rfl
  refine r_newarray (kd47 rfl) (by decide) g0 g3 g1 g2 rfl ?_
  obtain ⟨g, h⟩ := h
  have h := h _ rfl
  refine r_put2 (kd47 rfl) (by decide) rfl g rfl ?_
  refine r_aload_n (kd47 rfl) rfl rfl ?_
  refine r_bipush (kd47 rfl) (y := 101) (by decide) rfl ?_
  obtain ⟨g0, g3, g1, g2, h⟩ := h
  have h := h _ rfl
  refine r_newarray (kd47 rfl) (by decide) g0 g3 g1 g2 rfl ?_
  obtain ⟨g, h⟩ := h
  have h := h _ rfl
  refine r_put2 (kd47 rfl) (by decide) rfl g rfl ?_
  refine r_aload_n (kd47 rfl) rfl rfl ?_
  refine r_bipush (kd47 rfl) (y := 101) (by decide) rfl ?_
  obtain ⟨g0, g3, g1, g2, h⟩ := h
  have h := h _ rfl
  refine r_newarray (kd47 rfl) (by decide) g0 g3 g1 g2 rfl ?_
  obtain ⟨g, h⟩ := h
  have h := h _ rfl
  refine r_put2 (kd47 rfl) (by decide) rfl g rfl ?_
  refine r_aload_n (kd47 rfl) rfl rfl ?_
  refine r_ldc (kd47 rfl) (y := 180600) (by decide) rfl ?_
  obtain ⟨g0, g3, g1, g2, h⟩ := h
  have h := h _ rfl
  refine r_newarray (kd47 rfl) (by decide) g0 g3 g1 g2 rfl ?_
  obtain ⟨g, h⟩ := h
  have h := h _ rfl
  refine r_put2 (kd47 rfl) (by decide) rfl g rfl ?_
  refine r_aload_n (kd47 rfl) rfl rfl ?_
  refine r_bipush (kd47 rfl) (y := 64) (by decide) rfl ?_
  obtain ⟨g0, g3, g1, g2, h⟩ := h
  have h := h _ rfl
  refine r_newarray (kd47 rfl) (by decide) g0 g3 g1 g2 rfl ?_
  obtain ⟨g, h⟩ := h
  have h := h _ rfl
  refine r_put2 (kd47 rfl) (by decide) rfl g rfl ?_
  refine r_aload_n (kd47 rfl) rfl rfl ?_
  refine r_bipush (kd47 rfl) (y := 64) (by decide) rfl ?_
  obtain ⟨g0, g3, g1, g2, h⟩ := h
  have h := h _ rfl
  refine r_newarray (kd47 rfl) (by decide) g0 g3 g1 g2 rfl ?_
  obtain ⟨g, h⟩ := h
  have h := h _ rfl
  refine r_put2 (kd47 rfl) (by decide) rfl g rfl ?_
  refine r_aload_n (kd47 rfl) rfl rfl ?_
  refine r_bipush (kd47 rfl) (y := 64) (by decide) rfl ?_
  obtain ⟨g0, g3, g1, g2, h⟩ := h
  have h := h _ rfl
  refine r_newarray (kd47 rfl) (by decide) g0 g3 g1 g2 rfl ?_
  obtain ⟨g, h⟩ := h
  have h := h _ rfl
  refine r_put2 (kd47 rfl) (by decide) rfl g rfl ?_
  refine r_aload_n (kd47 rfl) rfl rfl ?_
  refine r_bipush (kd47 rfl) (y := 64) (by decide) rfl ?_
  obtain ⟨g0, g3, g1, g2, h⟩ := h
  have h := h _ rfl
  refine r_newarray (kd47 rfl) (by decide) g0 g3 g1 g2 rfl ?_
  obtain ⟨g, h⟩ := h
  have h := h _ rfl
  refine r_put2 (kd47 rfl) (by decide) rfl g rfl ?_
  refine r_aload_n (kd47 rfl) rfl rfl ?_
  refine r_bipush (kd47 rfl) (y := 64) (by decide) rfl ?_
  obtain ⟨g0, g3, g1, g2, h⟩ := h
  have h := h _ rfl
  refine r_newarray (kd47 rfl) (by decide) g0 g3 g1 g2 rfl ?_
  obtain ⟨g, h⟩ := h
  have h := h _ rfl
  refine r_put2 (kd47 rfl) (by decide) rfl g rfl ?_
  refine r_aload_n (kd47 rfl) rfl rfl ?_
  refine r_bipush (kd47 rfl) (y := 64) (by decide) rfl ?_
  obtain ⟨g0, g3, g1, g2, h⟩ := h
  have h := h _ rfl
  refine r_newarray (kd47 rfl) (by decide) g0 g3 g1 g2 rfl ?_
  obtain ⟨g, h⟩ := h
  have h := h _ rfl
  refine r_put2 (kd47 rfl) (by decide) rfl g rfl ?_
  refine r_aload_n (kd47 rfl) rfl rfl ?_
  refine r_bipush (kd47 rfl) (y := 64) (by decide) rfl ?_
  obtain ⟨g0, g3, g1, g2, h⟩ := h
  have h := h _ rfl
  refine r_newarray (kd47 rfl) (by decide) g0 g3 g1 g2 rfl ?_
  obtain ⟨g, h⟩ := h
  have h := h _ rfl
  refine r_put2 (kd47 rfl) (by decide) rfl g rfl ?_
  refine r_aload_n (kd47 rfl) rfl rfl ?_
  refine r_sipush (kd47 rfl) (y := 512) (by decide) rfl ?_
  obtain ⟨g0, g3, g1, g2, h⟩ := h
  have h := h _ rfl
  refine r_newarray (kd47 rfl) (by decide) g0 g3 g1 g2 rfl ?_
  obtain ⟨g, h⟩ := h
  have h := h _ rfl
  refine r_put2 (kd47 rfl) (by decide) rfl g rfl ?_
  refine r_aload_n (kd47 rfl) rfl rfl ?_
  refine r_sipush (kd47 rfl) (y := 512) (by decide) rfl ?_
  obtain ⟨g0, g3, g1, g2, h⟩ := h
  have h := h _ rfl
  refine r_newarray (kd47 rfl) (by decide) g0 g3 g1 g2 rfl ?_
  obtain ⟨g, h⟩ := h
  have h := h _ rfl
  refine r_put2 (kd47 rfl) (by decide) rfl g rfl ?_
  refine r_aload_n (kd47 rfl) rfl rfl ?_
  refine r_sipush (kd47 rfl) (y := 2100) (by decide) rfl ?_
  obtain ⟨g0, g3, g1, g2, h⟩ := h
  have h := h _ rfl
  refine r_newarray (kd47 rfl) (by decide) g0 g3 g1 g2 rfl ?_
  obtain ⟨g, h⟩ := h
  have h := h _ rfl
  refine r_put2 (kd47 rfl) (by decide) rfl g rfl ?_
  refine r_aload_n (kd47 rfl) rfl rfl ?_
  refine r_sipush (kd47 rfl) (y := 2100) (by decide) rfl ?_
  obtain ⟨g0, g3, g1, g2, h⟩ := h
  have h := h _ rfl
  refine r_newarray (kd47 rfl) (by decide) g0 g3 g1 g2 rfl ?_
  obtain ⟨g, h⟩ := h
  have h := h _ rfl
  refine r_put2 (kd47 rfl) (by decide) rfl g rfl ?_
  refine r_aload_n (kd47 rfl) rfl rfl ?_
  refine r_sipush (kd47 rfl) (y := 2100) (by decide) rfl ?_
  obtain ⟨g0, g3, g1, g2, h⟩ := h
  have h := h _ rfl
  refine r_newarray (kd47 rfl) (by decide) g0 g3 g1 g2 rfl ?_
  obtain ⟨g, h⟩ := h
  have h := h _ rfl
  refine r_put2 (kd47 rfl) (by decide) rfl g rfl ?_
  refine r_aload_n (kd47 rfl) rfl rfl ?_
  refine r_sipush (kd47 rfl) (y := 2100) (by decide) rfl ?_
  obtain ⟨g0, g3, g1, g2, h⟩ := h
  have h := h _ rfl
  refine r_newarray (kd47 rfl) (by decide) g0 g3 g1 g2 rfl ?_
  obtain ⟨g, h⟩ := h
  have h := h _ rfl
  refine r_put2 (kd47 rfl) (by decide) rfl g rfl ?_
  refine r_aload_n (kd47 rfl) rfl rfl ?_
  refine r_sipush (kd47 rfl) (y := 2100) (by decide) rfl ?_
  obtain ⟨g0, g3, g1, g2, h⟩ := h
  have h := h _ rfl
  refine r_newarray (kd47 rfl) (by decide) g0 g3 g1 g2 rfl ?_
  obtain ⟨g, h⟩ := h
  have h := h _ rfl
  refine r_put2 (kd47 rfl) (by decide) rfl g rfl ?_
  refine r_aload_n (kd47 rfl) rfl rfl ?_
  refine r_sipush (kd47 rfl) (y := 4100) (by decide) rfl ?_
  obtain ⟨g0, g3, g1, g2, h⟩ := h
  have h := h _ rfl
  refine r_newarray (kd47 rfl) (by decide) g0 g3 g1 g2 rfl ?_
  obtain ⟨g, h⟩ := h
  have h := h _ rfl
  refine r_put2 (kd47 rfl) (by decide) rfl g rfl ?_
  refine r_aload_n (kd47 rfl) rfl rfl ?_
  refine r_bipush (kd47 rfl) (y := 6) (by decide) rfl ?_
  obtain ⟨g0, g3, g1, g2, h⟩ := h
  have h := h _ rfl
  refine r_newarray (kd47 rfl) (by decide) g0 g3 g1 g2 rfl ?_
  obtain ⟨g, h⟩ := h
  have h := h _ rfl
  refine r_put2 (kd47 rfl) (by decide) rfl g rfl ?_
  refine r_aload_n (kd47 rfl) rfl rfl ?_
  refine r_bipush (kd47 rfl) (y := 6) (by decide) rfl ?_
  obtain ⟨g0, g3, g1, g2, h⟩ := h
  have h := h _ rfl
  refine r_newarray (kd47 rfl) (by decide) g0 g3 g1 g2 rfl ?_
  obtain ⟨g, h⟩ := h
  have h := h _ rfl
  refine r_put2 (kd47 rfl) (by decide) rfl g rfl ?_
  refine r_aload_n (kd47 rfl) rfl rfl ?_
  refine r_bipush (kd47 rfl) (y := 6) (by decide) rfl ?_
  obtain ⟨g0, g3, g1, g2, h⟩ := h
  have h := h _ rfl
  refine r_newarray (kd47 rfl) (by decide) g0 g3 g1 g2 rfl ?_
  obtain ⟨g, h⟩ := h
  have h := h _ rfl
  refine r_put2 (kd47 rfl) (by decide) rfl g rfl ?_
  refine r_aload_n (kd47 rfl) rfl rfl ?_
  refine r_sipush (kd47 rfl) (y := 2100) (by decide) rfl ?_
  obtain ⟨g0, g3, g1, g2, h⟩ := h
  have h := h _ rfl
  refine r_newarray (kd47 rfl) (by decide) g0 g3 g1 g2 rfl ?_
  obtain ⟨g, h⟩ := h
  have h := h _ rfl
  refine r_put2 (kd47 rfl) (by decide) rfl g rfl ?_
  exact r_return (kd47 rfl) R47 h
/-- TierMillModel.thrown()I -/
theorem kd48 {pc : Nat} {q : eI} (h : e_d48.lookup pc = some q) : e_dec 48 pc = some q := h
theorem L48 : (e_m 48).2.2.1 = 1 := rfl
theorem R48 : (e_m 48).2.2.2.1 = (some .int) := rfl
def w_Mod_thrown (l0 : Nat) (M : eM) (Q : Int32 → eM → Prop) : Prop := e_ob M l0 12 ∧ Q (gi M l0 0) M
theorem b_Mod_thrown {d : Nat} {l0 : Nat} {M : eM} {Q : Int32 → eM → Prop} (hd : 0 ≤ d) (h : w_Mod_thrown l0 M Q) : e_CI 48 d 0 0 [.ref l0] M Q := by
  unfold w_Mod_thrown at h
  show e_E 48 d 0 0 0 [(0, .ref l0)] [] M (e_QI Q)
  refine r_aload_n (kd48 rfl) rfl rfl ?_
  obtain ⟨g, h⟩ := h
  refine r_get0 (kd48 rfl) (by decide) rfl g rfl ?_
  exact r_ireturn (kd48 rfl) R48 h
/-- TierMillModel.raise(I)I -/
theorem kd49 {pc : Nat} {q : eI} (h : e_d49.lookup pc = some q) : e_dec 49 pc = some q := h
theorem L49 : (e_m 49).2.2.1 = 2 := rfl
theorem R49 : (e_m 49).2.2.2.1 = (some .int) := rfl
def w_Mod_raise (l0 : Nat) (l1 : Int32) (M : eM) (Q : Int32 → eM → Prop) : Prop := e_ob M l0 12 ∧ ∀ M1 : eM, M1 = e_si M l0 0 l1 → Q (0 : Int32) M1
theorem b_Mod_raise {d : Nat} {l0 : Nat} {l1 : Int32} {M : eM} {Q : Int32 → eM → Prop} (hd : 0 ≤ d) (h : w_Mod_raise l0 l1 M Q) : e_CI 49 d 0 0 [.ref l0, .int l1] M Q := by
  unfold w_Mod_raise at h
  show e_E 49 d 0 0 0 [(0, .ref l0), (1, .int l1)] [] M (e_QI Q)
  refine r_aload_n (kd49 rfl) rfl rfl ?_
  refine r_iload_n (kd49 rfl) rfl rfl ?_
  obtain ⟨g, h⟩ := h
  have h := h _ rfl
  refine r_put0 (kd49 rfl) (by decide) rfl g rfl ?_
  refine r_iconst (kd49 rfl) (y := 0) (by decide) rfl ?_
  exact r_ireturn (kd49 rfl) R49 h
/-- TierMillModel.within(III)Z -/
theorem kd50 {pc : Nat} {q : eI} (h : e_d50.lookup pc = some q) : e_dec 50 pc = some q := h
theorem L50 : (e_m 50).2.2.1 = 3 := rfl
theorem R50 : (e_m 50).2.2.2.1 = (some .boolean) := rfl
def w_Mod_within_15 (s0 : Int32) (M : eM) (Q : Int32 → eM → Prop) : Prop := (s0 = 0 ∨ s0 = 1) ∧ Q s0 M
theorem b_Mod_within_15 {d : Nat} {s0 : Int32} {M : eM} {Q : Int32 → eM → Prop} (hd : 0 ≤ d) (h : w_Mod_within_15 s0 M Q ) : e_E 50 d 0 0 15 [] [.int s0] M (e_QI Q) := by
  unfold w_Mod_within_15 at h
  exact r_zreturn (kd50 rfl) R50 h.1 h.2
def w_Mod_within_14 (M : eM) (Q : Int32 → eM → Prop) : Prop := w_Mod_within_15 0 M Q
theorem b_Mod_within_14 {d : Nat} {M : eM} {Q : Int32 → eM → Prop} (hd : 0 ≤ d) (h : w_Mod_within_14 M Q ) : e_E 50 d 0 0 14 [] [] M (e_QI Q) := by
  unfold w_Mod_within_14 at h
  refine r_iconst (kd50 rfl) (y := 0) (by decide) rfl ?_
  exact (b_Mod_within_15 hd h).less e_sn
def w_Mod_within (l0 : Int32) (l1 : Int32) (l2 : Int32) (M : eM) (Q : Int32 → eM → Prop) : Prop := (l0 < l1 → w_Mod_within_14 M Q) ∧ (¬ l0 < l1 → (l2 < l0 → w_Mod_within_14 M Q) ∧ (¬ l2 < l0 → w_Mod_within_15 1 M Q))
theorem b_Mod_within {d : Nat} {l0 : Int32} {l1 : Int32} {l2 : Int32} {M : eM} {Q : Int32 → eM → Prop} (hd : 0 ≤ d) (h : w_Mod_within l0 l1 l2 M Q) : e_CI 50 d 0 0 [.int l0, .int l1, .int l2] M Q := by
  unfold w_Mod_within at h
  show e_E 50 d 0 0 0 [(0, .int l0), (1, .int l1), (2, .int l2)] [] M (e_QI Q)
  refine r_iload_n (kd50 rfl) rfl rfl ?_
  refine r_iload_n (kd50 rfl) rfl rfl ?_
  refine r_icmp_lt (kd50 rfl) rfl (fun c => ?_) (fun c => ?_)
  · have h := h.1 c
    exact (b_Mod_within_14 hd h).less e_sn
  · have h := h.2 c
    refine r_iload_n (kd50 rfl) rfl rfl ?_
    refine r_iload_n (kd50 rfl) rfl rfl ?_
    refine r_icmp_gt (kd50 rfl) rfl (fun c => ?_) (fun c => ?_)
    · have h := h.1 c
      exact (b_Mod_within_14 hd h).less e_sn
    · have h := h.2 c
      refine r_iconst (kd50 rfl) (y := 1) (by decide) rfl ?_
      refine r_goto (kd50 rfl) ?_
      exact (b_Mod_within_15 hd h).less e_sn
/-- TierMillModel.put(JI)Z -/
theorem kd51 {pc : Nat} {q : eI} (h : e_d51.lookup pc = some q) : e_dec 51 pc = some q := h
theorem L51 : (e_m 51).2.2.1 = 5 := rfl
theorem R51 : (e_m 51).2.2.2.1 = (some .boolean) := rfl
set_option maxRecDepth 100000 in
def w_Mod_put_28 (M : eM) (Q : Int32 → eM → Prop) : Prop := ((0 : Int32) = 0 ∨ (0 : Int32) = 1) ∧ Q (0 : Int32) M
set_option maxRecDepth 100000 in
theorem b_Mod_put_28 {d : Nat} {M : eM} {Q : Int32 → eM → Prop} (hd : 0 ≤ d) (h : w_Mod_put_28 M Q ) : e_E 51 d 0 0 28 [] [] M (e_QI Q) := by
  unfold w_Mod_put_28 at h
  refine r_iconst (kd51 rfl) (y := 0) (by decide) rfl ?_
  exact r_zreturn (kd51 rfl) R51 h.1 h.2
set_option maxRecDepth 100000 in
def w_Mod_put_35 : Nat → Nat → Int64 → Int32 → eM → (Int32 → eM → Prop) → Prop
  | 0, _, _, _, _, _ => False
  | n + 1, l0, l1, l4, M, Q => (l4 < 0 → ((1 : Int32) = 0 ∨ (1 : Int32) = 1) ∧ Q (1 : Int32) M) ∧ (¬ l4 < 0 → e_ob M l0 12 ∧ e_ob M l0 12 ∧ e_ar M (gr M l0 2) 20 (gi M l0 1) ∧ ∀ M3 : eM, M3 = e_si M (gr M l0 2) (gi M l0 1).toNatClampNeg (((l1 >>> ((8 * l4).toInt64 &&& 63)) &&& 255).toInt32) → e_ob M3 l0 12 ∧ e_ob M3 l0 12 ∧ ∀ M4 : eM, M4 = e_si M3 l0 1 ((gi M3 l0 1) + 1) → (fun l0 l1 l4 M => w_Mod_put_35 n l0 l1 l4 M Q ) l0 l1 (l4 + (-1)) M4)
set_option maxRecDepth 100000 in
theorem b_Mod_put_35 {d : Nat} {Q : Int32 → eM → Prop} (hd : 0 ≤ d) (n : Nat) : ∀ (l0 : Nat) (l1 : Int64) (l4 : Int32) (M : eM), w_Mod_put_35 n l0 l1 l4 M Q → e_E 51 d 0 0 35 [(0, .ref l0), (1, .long l1), (4, .int l4)] [] M (e_QI Q) := by
  induction n with
  | zero => intro l0 l1 l4 M h; exact False.elim h
  | succ n ih =>
    intro l0 l1 l4 M h
    have hk35 := ih
    refine r_iload (kd51 rfl) rfl rfl ?_
    refine r_if_lt (kd51 rfl) rfl (fun c => ?_) (fun c => ?_)
    · have h := h.1 c
      refine r_iconst (kd51 rfl) (y := 1) (by decide) rfl ?_
      exact r_zreturn (kd51 rfl) R51 h.1 h.2
    · have h := h.2 c
      refine r_aload_n (kd51 rfl) rfl rfl ?_
      obtain ⟨g, h⟩ := h
      refine r_get2 (kd51 rfl) (by decide) rfl g rfl ?_
      refine r_aload_n (kd51 rfl) rfl rfl ?_
      obtain ⟨g, h⟩ := h
      refine r_get0 (kd51 rfl) (by decide) rfl g rfl ?_
      refine r_lload_n (kd51 rfl) rfl rfl ?_
      refine r_bipush (kd51 rfl) (y := 8) (by decide) rfl ?_
      refine r_iload (kd51 rfl) rfl rfl ?_
      refine r_imul (kd51 rfl) rfl ?_
      refine r_lshr (kd51 rfl) rfl ?_
      refine r_ldc2_w (kd51 rfl) (y := 255) (by decide) rfl ?_
      refine r_land (kd51 rfl) rfl ?_
      refine r_l2i (kd51 rfl) rfl ?_
      obtain ⟨g, h⟩ := h
      have h := h _ rfl
      refine r_iastore (kd51 rfl) g rfl ?_
      refine r_aload_n (kd51 rfl) rfl rfl ?_
      refine r_dup (kd51 rfl) rfl rfl ?_
      obtain ⟨g, h⟩ := h
      refine r_get0 (kd51 rfl) (by decide) rfl g rfl ?_
      refine r_iconst (kd51 rfl) (y := 1) (by decide) rfl ?_
      refine r_iadd (kd51 rfl) rfl ?_
      obtain ⟨g, h⟩ := h
      have h := h _ rfl
      refine r_put0 (kd51 rfl) (by decide) rfl g rfl ?_
      refine r_iinc (kd51 rfl) rfl (y := (-1)) (by decide) L51 (by decide) rfl rfl ?_
      refine r_goto (kd51 rfl) ?_
      exact (hk35 _ _ _ _ h).less (e_sc (List.mem_of_getElem? (i := 1) rfl) (e_sc (List.mem_of_getElem? (i := 2) rfl) (e_sc (List.mem_of_getElem? (i := 0) rfl) e_sn)))
set_option maxRecDepth 100000 in
def w_Mod_put (l0 : Nat) (l1 : Int64) (l3 : Int32) (M : eM) (Q : Int32 → eM → Prop) : Prop := e_ob M l0 12 ∧ ∀ M1 : eM, M1 = e_si M l0 0 0 → (l3 < 1 → w_Mod_put_28 M1 Q) ∧ (¬ l3 < 1 → (8 < l3 → w_Mod_put_28 M1 Q) ∧ (¬ 8 < l3 → e_ob M1 l0 12 ∧ (((gi M1 l0 1) + l3) ≤ 1500 → ∃ n2 : Nat, w_Mod_put_35 n2 l0 l1 (l3 - 1) M1 Q) ∧ (¬ ((gi M1 l0 1) + l3) ≤ 1500 → w_Mod_put_28 M1 Q)))
set_option maxRecDepth 100000 in
theorem b_Mod_put {d : Nat} {l0 : Nat} {l1 : Int64} {l3 : Int32} {M : eM} {Q : Int32 → eM → Prop} (hd : 0 ≤ d) (h : w_Mod_put l0 l1 l3 M Q) : e_CI 51 d 0 0 [.ref l0, .long l1, .int l3] M Q := by
  unfold w_Mod_put at h
  show e_E 51 d 0 0 0 [(0, .ref l0), (1, .long l1), (3, .int l3)] [] M (e_QI Q)
  refine r_aload_n (kd51 rfl) rfl rfl ?_
  refine r_iconst (kd51 rfl) (y := 0) (by decide) rfl ?_
  obtain ⟨g, h⟩ := h
  have h := h _ rfl
  refine r_put0 (kd51 rfl) (by decide) rfl g rfl ?_
  refine r_iload_n (kd51 rfl) rfl rfl ?_
  refine r_iconst (kd51 rfl) (y := 1) (by decide) rfl ?_
  refine r_icmp_lt (kd51 rfl) rfl (fun c => ?_) (fun c => ?_)
  · have h := h.1 c
    exact (b_Mod_put_28 hd h).less e_sn
  · have h := h.2 c
    refine r_iload_n (kd51 rfl) rfl rfl ?_
    refine r_bipush (kd51 rfl) (y := 8) (by decide) rfl ?_
    refine r_icmp_gt (kd51 rfl) rfl (fun c => ?_) (fun c => ?_)
    · have h := h.1 c
      exact (b_Mod_put_28 hd h).less e_sn
    · have h := h.2 c
      refine r_aload_n (kd51 rfl) rfl rfl ?_
      obtain ⟨g, h⟩ := h
      refine r_get0 (kd51 rfl) (by decide) rfl g rfl ?_
      refine r_iload_n (kd51 rfl) rfl rfl ?_
      refine r_iadd (kd51 rfl) rfl ?_
      refine r_sipush (kd51 rfl) (y := 1500) (by decide) rfl ?_
      refine r_icmp_le (kd51 rfl) rfl (fun c => ?_) (fun c => ?_)
      · have h := h.1 c
        refine r_iload_n (kd51 rfl) rfl rfl ?_
        refine r_iconst (kd51 rfl) (y := 1) (by decide) rfl ?_
        refine r_isub (kd51 rfl) rfl ?_
        refine r_istore (kd51 rfl) L51 (by decide) rfl rfl ?_
        obtain ⟨n, h⟩ := h
        exact (b_Mod_put_35 hd n _ _ _ _ h).less (e_sc (List.mem_of_getElem? (i := 1) rfl) (e_sc (List.mem_of_getElem? (i := 2) rfl) (e_sc (List.mem_of_getElem? (i := 0) rfl) e_sn)))
      · have h := h.2 c
        exact (b_Mod_put_28 hd h).less e_sn
