/-- TierMillModel.siteAt(I)I -/
theorem kd192 {pc : Nat} {q : eI} (h : e_d192.lookup pc = some q) : e_dec 192 pc = some q := h
theorem L192 : (e_m 192).2.2.1 = 4 := rfl
theorem R192 : (e_m 192).2.2.2.1 = (some .int) := rfl
def w_Mod_siteAt_84 (l0 : Nat) (l1 : Int32) (l2 : Int32) (l3 : Int32) (M : eM) (Q : Int32 → eM → Prop) (k25 : Nat → Int32 → Int32 → Int32 → eM → Prop) : Prop := k25 l0 l1 l2 (l3 + 1) M
theorem b_Mod_siteAt_84 {d : Nat} {l0 : Nat} {l1 : Int32} {l2 : Int32} {l3 : Int32} {M : eM} {Q : Int32 → eM → Prop} {k25 : Nat → Int32 → Int32 → Int32 → eM → Prop} (hd : 0 ≤ d) (hk25 : ∀ (l0 : Nat) (l1 : Int32) (l2 : Int32) (l3 : Int32) (M : eM), k25 l0 l1 l2 l3 M → e_E 192 d 0 0 25 [(0, .ref l0), (1, .int l1), (2, .int l2), (3, .int l3)] [] M (e_QI Q)) (h : w_Mod_siteAt_84 l0 l1 l2 l3 M Q k25) : e_E 192 d 0 0 84 [(0, .ref l0), (1, .int l1), (2, .int l2), (3, .int l3)] [] M (e_QI Q) := by
  unfold w_Mod_siteAt_84 at h
  refine r_iinc (kd192 rfl) rfl (y := 1) (by decide) L192 (by decide) rfl rfl ?_
  refine r_goto (kd192 rfl) ?_
  exact (hk25 _ _ _ _ _ h).less (e_sc (List.mem_of_getElem? (i := 1) rfl) (e_sc (List.mem_of_getElem? (i := 2) rfl) (e_sc (List.mem_of_getElem? (i := 3) rfl) (e_sc (List.mem_of_getElem? (i := 0) rfl) e_sn))))
def w_Mod_siteAt_25 : Nat → Nat → Int32 → Int32 → Int32 → eM → (Int32 → eM → Prop) → Prop
  | 0, _, _, _, _, _, _ => False
  | n + 1, l0, l1, l2, l3, M, Q => e_ob M l0 12 ∧ e_ai M (gr M l0 55) l2 ∧ e_ob M l0 12 ∧ e_ai M (gr M l0 56) l2 ∧ (((gi M (gr M l0 55) l2.toNatClampNeg) + (gi M (gr M l0 56) l2.toNatClampNeg)) ≤ l3 → Q ((-1) : Int32) M) ∧ (¬ ((gi M (gr M l0 55) l2.toNatClampNeg) + (gi M (gr M l0 56) l2.toNatClampNeg)) ≤ l3 → e_ob M l0 12 ∧ e_ai M (gr M l0 59) ((6 * l3) + 5) ∧ e_ob M l0 12 ∧ e_ai M (gr M l0 66) l1 ∧ (¬ (gi M (gr M l0 59) ((6 * l3) + 5).toNatClampNeg) = (gi M (gr M l0 66) l1.toNatClampNeg) → w_Mod_siteAt_84 l0 l1 l2 l3 M Q (fun l0 l1 l2 l3 M => w_Mod_siteAt_25 n l0 l1 l2 l3 M Q )) ∧ ((gi M (gr M l0 59) ((6 * l3) + 5).toNatClampNeg) = (gi M (gr M l0 66) l1.toNatClampNeg) → e_ob M l0 12 ∧ e_ai M (gr M l0 59) ((6 * l3) + 2) ∧ e_ob M l0 12 ∧ e_ai M (gr M l0 62) l1 ∧ (¬ (gi M (gr M l0 59) ((6 * l3) + 2).toNatClampNeg) = (gi M (gr M l0 62) l1.toNatClampNeg) → w_Mod_siteAt_84 l0 l1 l2 l3 M Q (fun l0 l1 l2 l3 M => w_Mod_siteAt_25 n l0 l1 l2 l3 M Q )) ∧ ((gi M (gr M l0 59) ((6 * l3) + 2).toNatClampNeg) = (gi M (gr M l0 62) l1.toNatClampNeg) → Q l3 M)))
theorem b_Mod_siteAt_25 {d : Nat} {Q : Int32 → eM → Prop} (hd : 0 ≤ d) (n : Nat) : ∀ (l0 : Nat) (l1 : Int32) (l2 : Int32) (l3 : Int32) (M : eM), w_Mod_siteAt_25 n l0 l1 l2 l3 M Q → e_E 192 d 0 0 25 [(0, .ref l0), (1, .int l1), (2, .int l2), (3, .int l3)] [] M (e_QI Q) := by
  induction n with
  | zero => intro l0 l1 l2 l3 M h; exact False.elim h
  | succ n ih =>
    intro l0 l1 l2 l3 M h
    have hk25 := ih
    refine r_iload_n (kd192 rfl) rfl rfl ?_
    refine r_aload_n (kd192 rfl) rfl rfl ?_
    obtain ⟨g, h⟩ := h
    refine r_get2 (kd192 rfl) (by decide) rfl g rfl ?_
    refine r_iload_n (kd192 rfl) rfl rfl ?_
    obtain ⟨g, h⟩ := h
    refine r_iaload (kd192 rfl) g rfl ?_
    refine r_aload_n (kd192 rfl) rfl rfl ?_
    obtain ⟨g, h⟩ := h
    refine r_get2 (kd192 rfl) (by decide) rfl g rfl ?_
    refine r_iload_n (kd192 rfl) rfl rfl ?_
    obtain ⟨g, h⟩ := h
    refine r_iaload (kd192 rfl) g rfl ?_
    refine r_iadd (kd192 rfl) rfl ?_
    refine r_icmp_ge (kd192 rfl) rfl (fun c => ?_) (fun c => ?_)
    · have h := h.1 c
      refine r_iconst (kd192 rfl) (y := (-1)) (by decide) rfl ?_
      exact r_ireturn (kd192 rfl) R192 h
    · have h := h.2 c
      refine r_aload_n (kd192 rfl) rfl rfl ?_
      obtain ⟨g, h⟩ := h
      refine r_get2 (kd192 rfl) (by decide) rfl g rfl ?_
      refine r_bipush (kd192 rfl) (y := 6) (by decide) rfl ?_
      refine r_iload_n (kd192 rfl) rfl rfl ?_
      refine r_imul (kd192 rfl) rfl ?_
      refine r_iconst (kd192 rfl) (y := 5) (by decide) rfl ?_
      refine r_iadd (kd192 rfl) rfl ?_
      obtain ⟨g, h⟩ := h
      refine r_iaload (kd192 rfl) g rfl ?_
      refine r_aload_n (kd192 rfl) rfl rfl ?_
      obtain ⟨g, h⟩ := h
      refine r_get2 (kd192 rfl) (by decide) rfl g rfl ?_
      refine r_iload_n (kd192 rfl) rfl rfl ?_
      obtain ⟨g, h⟩ := h
      refine r_iaload (kd192 rfl) g rfl ?_
      refine r_icmp_ne (kd192 rfl) rfl (fun c => ?_) (fun c => ?_)
      · have h := h.1 c
        exact (b_Mod_siteAt_84 hd hk25 h).less (e_sc (List.mem_of_getElem? (i := 0) rfl) (e_sc (List.mem_of_getElem? (i := 1) rfl) (e_sc (List.mem_of_getElem? (i := 2) rfl) (e_sc (List.mem_of_getElem? (i := 3) rfl) e_sn))))
      · have h := h.2 c
        refine r_aload_n (kd192 rfl) rfl rfl ?_
        obtain ⟨g, h⟩ := h
        refine r_get2 (kd192 rfl) (by decide) rfl g rfl ?_
        refine r_bipush (kd192 rfl) (y := 6) (by decide) rfl ?_
        refine r_iload_n (kd192 rfl) rfl rfl ?_
        refine r_imul (kd192 rfl) rfl ?_
        refine r_iconst (kd192 rfl) (y := 2) (by decide) rfl ?_
        refine r_iadd (kd192 rfl) rfl ?_
        obtain ⟨g, h⟩ := h
        refine r_iaload (kd192 rfl) g rfl ?_
        refine r_aload_n (kd192 rfl) rfl rfl ?_
        obtain ⟨g, h⟩ := h
        refine r_get2 (kd192 rfl) (by decide) rfl g rfl ?_
        refine r_iload_n (kd192 rfl) rfl rfl ?_
        obtain ⟨g, h⟩ := h
        refine r_iaload (kd192 rfl) g rfl ?_
        refine r_icmp_ne (kd192 rfl) rfl (fun c => ?_) (fun c => ?_)
        · have h := h.1 c
          exact (b_Mod_siteAt_84 hd hk25 h).less (e_sc (List.mem_of_getElem? (i := 0) rfl) (e_sc (List.mem_of_getElem? (i := 1) rfl) (e_sc (List.mem_of_getElem? (i := 2) rfl) (e_sc (List.mem_of_getElem? (i := 3) rfl) e_sn))))
        · have h := h.2 c
          refine r_iload_n (kd192 rfl) rfl rfl ?_
          exact r_ireturn (kd192 rfl) R192 h
def w_Mod_siteAt (l0 : Nat) (l1 : Int32) (M : eM) (Q : Int32 → eM → Prop) : Prop := e_ob M l0 12 ∧ e_ai M (gr M l0 64) l1 ∧ (¬ (gi M (gr M l0 64) l1.toNatClampNeg) = 0 → e_ob M l0 12 ∧ e_ai M (gr M l0 65) l1 ∧ e_ob M l0 12 ∧ e_ai M (gr M l0 55) (gi M (gr M l0 65) l1.toNatClampNeg) ∧ ∃ n1 : Nat, w_Mod_siteAt_25 n1 l0 l1 (gi M (gr M l0 65) l1.toNatClampNeg) (gi M (gr M l0 55) (gi M (gr M l0 65) l1.toNatClampNeg).toNatClampNeg) M Q) ∧ ((gi M (gr M l0 64) l1.toNatClampNeg) = 0 → Q ((-1) : Int32) M)
theorem b_Mod_siteAt {d : Nat} {l0 : Nat} {l1 : Int32} {M : eM} {Q : Int32 → eM → Prop} (hd : 0 ≤ d) (h : w_Mod_siteAt l0 l1 M Q) : e_CI 192 d 0 0 [.ref l0, .int l1] M Q := by
  unfold w_Mod_siteAt at h
  show e_E 192 d 0 0 0 [(0, .ref l0), (1, .int l1)] [] M (e_QI Q)
  refine r_aload_n (kd192 rfl) rfl rfl ?_
  obtain ⟨g, h⟩ := h
  refine r_get2 (kd192 rfl) (by decide) rfl g rfl ?_
  refine r_iload_n (kd192 rfl) rfl rfl ?_
  obtain ⟨g, h⟩ := h
  refine r_iaload (kd192 rfl) g rfl ?_
  refine r_if_ne (kd192 rfl) rfl (fun c => ?_) (fun c => ?_)
  · have h := h.1 c
    refine r_aload_n (kd192 rfl) rfl rfl ?_
    obtain ⟨g, h⟩ := h
    refine r_get2 (kd192 rfl) (by decide) rfl g rfl ?_
    refine r_iload_n (kd192 rfl) rfl rfl ?_
    obtain ⟨g, h⟩ := h
    refine r_iaload (kd192 rfl) g rfl ?_
    refine r_istore_n (kd192 rfl) L192 (by decide) rfl rfl ?_
    refine r_aload_n (kd192 rfl) rfl rfl ?_
    obtain ⟨g, h⟩ := h
    refine r_get2 (kd192 rfl) (by decide) rfl g rfl ?_
    refine r_iload_n (kd192 rfl) rfl rfl ?_
    obtain ⟨g, h⟩ := h
    refine r_iaload (kd192 rfl) g rfl ?_
    refine r_istore_n (kd192 rfl) L192 (by decide) rfl rfl ?_
    obtain ⟨n, h⟩ := h
    exact (b_Mod_siteAt_25 hd n _ _ _ _ _ h).less (e_sc (List.mem_of_getElem? (i := 2) rfl) (e_sc (List.mem_of_getElem? (i := 3) rfl) (e_sc (List.mem_of_getElem? (i := 1) rfl) (e_sc (List.mem_of_getElem? (i := 0) rfl) e_sn))))
  · have h := h.2 c
    refine r_iconst (kd192 rfl) (y := (-1)) (by decide) rfl ?_
    exact r_ireturn (kd192 rfl) R192 h
/-- TierMillModel.fail(II)V -/
theorem kd193 {pc : Nat} {q : eI} (h : e_d193.lookup pc = some q) : e_dec 193 pc = some q := h
theorem L193 : (e_m 193).2.2.1 = 5 := rfl
theorem R193 : (e_m 193).2.2.2.1 = none := rfl
def w_Mod_fail_2 : Nat → Nat → Int32 → Int32 → Int32 → eM → (eM → Prop) → Prop
  | 0, _, _, _, _, _, _ => False
  | n + 1, l0, l1, l2, l3, M, Q => e_ob M l0 12 ∧ e_ai M (gr M l0 64) l3 ∧ (¬ (gi M (gr M l0 64) l3.toNatClampNeg) = 2 → e_ob M l0 12 ∧ e_ar M (gr M l0 64) 20 l3 ∧ ∀ M2 : eM, M2 = e_si M (gr M l0 64) l3.toNatClampNeg 0 → e_ob M2 l0 12 ∧ e_ai M2 (gr M2 l0 61) l3 ∧ e_ob M2 l0 12 ∧ e_ai M2 (gr M2 l0 61) l1 ∧ e_ob M2 l0 12 ∧ w_Mod_note l0 2 (gi M2 (gr M2 l0 61) l3.toNatClampNeg) (gi M2 (gr M2 l0 61) l1.toNatClampNeg) l2 M2 (fun (M3 : eM) => e_ob M3 l0 12 ∧ e_ai M3 (gr M3 l0 50) (gi M2 (gr M2 l0 61) l3.toNatClampNeg) ∧ e_ob M3 l0 12 ∧ e_ai M3 (gr M3 l0 65) l3 ∧ ((gi M3 (gr M3 l0 50) (gi M2 (gr M2 l0 61) l3.toNatClampNeg).toNatClampNeg) = (gi M3 (gr M3 l0 65) l3.toNatClampNeg) → e_ob M3 l0 12 ∧ e_ar M3 (gr M3 l0 50) 20 (gi M2 (gr M2 l0 61) l3.toNatClampNeg) ∧ ∀ M4 : eM, M4 = e_si M3 (gr M3 l0 50) (gi M2 (gr M2 l0 61) l3.toNatClampNeg).toNatClampNeg (-1) → e_ob M4 l0 12 ∧ e_ar M4 (gr M4 l0 49) 20 (gi M2 (gr M2 l0 61) l3.toNatClampNeg) ∧ ∀ M5 : eM, M5 = e_si M4 (gr M4 l0 49) (gi M2 (gr M2 l0 61) l3.toNatClampNeg).toNatClampNeg 0 → Q M5) ∧ (¬ (gi M3 (gr M3 l0 50) (gi M2 (gr M2 l0 61) l3.toNatClampNeg).toNatClampNeg) = (gi M3 (gr M3 l0 65) l3.toNatClampNeg) → Q M3))) ∧ ((gi M (gr M l0 64) l3.toNatClampNeg) = 2 → e_ob M l0 12 ∧ e_ar M (gr M l0 64) 20 l3 ∧ ∀ M6 : eM, M6 = e_si M (gr M l0 64) l3.toNatClampNeg 0 → (fun l0 l1 l2 l3 M => w_Mod_fail_2 n l0 l1 l2 l3 M Q ) l0 l1 l2 (l3 + (-1)) M6)
theorem b_Mod_fail_2 {d : Nat} {Q : eM → Prop} (hd : 1 ≤ d) (n : Nat) : ∀ (l0 : Nat) (l1 : Int32) (l2 : Int32) (l3 : Int32) (M : eM), w_Mod_fail_2 n l0 l1 l2 l3 M Q → e_E 193 d 0 0 2 [(0, .ref l0), (1, .int l1), (2, .int l2), (3, .int l3)] [] M (e_QV Q) := by
  induction n with
  | zero => intro l0 l1 l2 l3 M h; exact False.elim h
  | succ n ih =>
    intro l0 l1 l2 l3 M h
    have hk2 := ih
    refine r_aload_n (kd193 rfl) rfl rfl ?_
    obtain ⟨g, h⟩ := h
    refine r_get2 (kd193 rfl) (by decide) rfl g rfl ?_
    refine r_iload_n (kd193 rfl) rfl rfl ?_
    obtain ⟨g, h⟩ := h
    refine r_iaload (kd193 rfl) g rfl ?_
    refine r_iconst (kd193 rfl) (y := 2) (by decide) rfl ?_
    refine r_icmp_ne (kd193 rfl) rfl (fun c => ?_) (fun c => ?_)
    · have h := h.1 c
      refine r_aload_n (kd193 rfl) rfl rfl ?_
      obtain ⟨g, h⟩ := h
      refine r_get2 (kd193 rfl) (by decide) rfl g rfl ?_
      refine r_iload_n (kd193 rfl) rfl rfl ?_
      refine r_iconst (kd193 rfl) (y := 0) (by decide) rfl ?_
      obtain ⟨g, h⟩ := h
      have h := h _ rfl
      refine r_iastore (kd193 rfl) g rfl ?_
      refine r_aload_n (kd193 rfl) rfl rfl ?_
      obtain ⟨g, h⟩ := h
      refine r_get2 (kd193 rfl) (by decide) rfl g rfl ?_
      refine r_iload_n (kd193 rfl) rfl rfl ?_
      obtain ⟨g, h⟩ := h
      refine r_iaload (kd193 rfl) g rfl ?_
      refine r_istore (kd193 rfl) L193 (by decide) rfl rfl ?_
      refine r_aload_n (kd193 rfl) rfl rfl ?_
      refine r_iconst (kd193 rfl) (y := 2) (by decide) rfl ?_
      refine r_iload (kd193 rfl) rfl rfl ?_
      refine r_aload_n (kd193 rfl) rfl rfl ?_
      obtain ⟨g, h⟩ := h
      refine r_get2 (kd193 rfl) (by decide) rfl g rfl ?_
      refine r_iload_n (kd193 rfl) rfl rfl ?_
      obtain ⟨g, h⟩ := h
      refine r_iaload (kd193 rfl) g rfl ?_
      refine r_iload_n (kd193 rfl) rfl rfl ?_
      obtain ⟨g, h⟩ := h
      refine r_callVV (d' := d - 1) (by omega) (kd193 rfl) (by decide) rfl rfl rfl rfl (Nat.le_of_ble_eq_true rfl) rfl L187 (Nat.le_of_ble_eq_true rfl) (Nat.le_of_ble_eq_true rfl) g (Nat.zero_le _) (Nat.zero_le _) rfl rfl rfl (b_Mod_note (by omega) h) (fun M1 h => ?_)
      refine r_aload_n (kd193 rfl) rfl rfl ?_
      obtain ⟨g, h⟩ := h
      refine r_get2 (kd193 rfl) (by decide) rfl g rfl ?_
      refine r_iload (kd193 rfl) rfl rfl ?_
      obtain ⟨g, h⟩ := h
      refine r_iaload (kd193 rfl) g rfl ?_
      refine r_aload_n (kd193 rfl) rfl rfl ?_
      obtain ⟨g, h⟩ := h
      refine r_get2 (kd193 rfl) (by decide) rfl g rfl ?_
      refine r_iload_n (kd193 rfl) rfl rfl ?_
      obtain ⟨g, h⟩ := h
      refine r_iaload (kd193 rfl) g rfl ?_
      refine r_icmp_eq (kd193 rfl) rfl (fun c => ?_) (fun c => ?_)
      · have h := h.1 c
        refine r_aload_n (kd193 rfl) rfl rfl ?_
        obtain ⟨g, h⟩ := h
        refine r_get2 (kd193 rfl) (by decide) rfl g rfl ?_
        refine r_iload (kd193 rfl) rfl rfl ?_
        refine r_iconst (kd193 rfl) (y := (-1)) (by decide) rfl ?_
        obtain ⟨g, h⟩ := h
        have h := h _ rfl
        refine r_iastore (kd193 rfl) g rfl ?_
        refine r_aload_n (kd193 rfl) rfl rfl ?_
        obtain ⟨g, h⟩ := h
        refine r_get2 (kd193 rfl) (by decide) rfl g rfl ?_
        refine r_iload (kd193 rfl) rfl rfl ?_
        refine r_iconst (kd193 rfl) (y := 0) (by decide) rfl ?_
        obtain ⟨g, h⟩ := h
        have h := h _ rfl
        refine r_iastore (kd193 rfl) g rfl ?_
        exact r_return (kd193 rfl) R193 h
      · have h := h.2 c
        exact r_return (kd193 rfl) R193 h
    · have h := h.2 c
      refine r_aload_n (kd193 rfl) rfl rfl ?_
      obtain ⟨g, h⟩ := h
      refine r_get2 (kd193 rfl) (by decide) rfl g rfl ?_
      refine r_iload_n (kd193 rfl) rfl rfl ?_
      refine r_iconst (kd193 rfl) (y := 0) (by decide) rfl ?_
      obtain ⟨g, h⟩ := h
      have h := h _ rfl
      refine r_iastore (kd193 rfl) g rfl ?_
      refine r_iinc (kd193 rfl) rfl (y := (-1)) (by decide) L193 (by decide) rfl rfl ?_
      refine r_goto (kd193 rfl) ?_
      exact (hk2 _ _ _ _ _ h).less (e_sc (List.mem_of_getElem? (i := 1) rfl) (e_sc (List.mem_of_getElem? (i := 2) rfl) (e_sc (List.mem_of_getElem? (i := 3) rfl) (e_sc (List.mem_of_getElem? (i := 0) rfl) e_sn))))
def w_Mod_fail (l0 : Nat) (l1 : Int32) (l2 : Int32) (M : eM) (Q : eM → Prop) : Prop := ∃ n1 : Nat, w_Mod_fail_2 n1 l0 l1 l2 l1 M Q
theorem b_Mod_fail {d : Nat} {l0 : Nat} {l1 : Int32} {l2 : Int32} {M : eM} {Q : eM → Prop} (hd : 1 ≤ d) (h : w_Mod_fail l0 l1 l2 M Q) : e_CV 193 d 0 0 [.ref l0, .int l1, .int l2] M Q := by
  unfold w_Mod_fail at h
  show e_E 193 d 0 0 0 [(0, .ref l0), (1, .int l1), (2, .int l2)] [] M (e_QV Q)
  refine r_iload_n (kd193 rfl) rfl rfl ?_
  refine r_istore_n (kd193 rfl) L193 (by decide) rfl rfl ?_
  obtain ⟨n, h⟩ := h
  exact (b_Mod_fail_2 hd n _ _ _ _ _ h).less (e_sc (List.mem_of_getElem? (i := 1) rfl) (e_sc (List.mem_of_getElem? (i := 2) rfl) (e_sc (List.mem_of_getElem? (i := 3) rfl) (e_sc (List.mem_of_getElem? (i := 0) rfl) e_sn))))
/-- TierMillModel.call(II)V -/
theorem kd194 {pc : Nat} {q : eI} (h : e_d194.lookup pc = some q) : e_dec 194 pc = some q := h
theorem L194 : (e_m 194).2.2.1 = 7 := rfl
theorem R194 : (e_m 194).2.2.2.1 = none := rfl
set_option maxRecDepth 100000 in
def w_Mod_call_169 : Nat → Nat → Int32 → Int32 → Int32 → eM → (eM → Prop) → Prop
  | 0, _, _, _, _, _, _ => False
  | n + 1, l0, l1, l3, l6, M, Q => e_ob M l0 12 ∧ e_ai M (gr M l0 20) l1 ∧ ((gi M (gr M l0 20) l1.toNatClampNeg) ≤ l6 → Q M) ∧ (¬ (gi M (gr M l0 20) l1.toNatClampNeg) ≤ l6 → e_ob M l0 12 ∧ e_ob M l0 12 ∧ e_ob M l0 12 ∧ e_ai M (gr M l0 67) l3 ∧ e_ai M (gr M l0 69) (((8 * l3) + (gi M (gr M l0 67) l3.toNatClampNeg)) + l6) ∧ e_ar M (gr M l0 68) 20 (((8 * l3) + 8) + l6) ∧ ∀ M11 : eM, M11 = e_si M (gr M l0 68) (((8 * l3) + 8) + l6).toNatClampNeg (gi M (gr M l0 69) (((8 * l3) + (gi M (gr M l0 67) l3.toNatClampNeg)) + l6).toNatClampNeg) → (fun l0 l1 l3 l6 M => w_Mod_call_169 n l0 l1 l3 l6 M Q ) l0 l1 l3 (l6 + 1) M11)
set_option maxRecDepth 100000 in
theorem b_Mod_call_169 {d : Nat} {Q : eM → Prop} (hd : 4 ≤ d) (n : Nat) : ∀ (l0 : Nat) (l1 : Int32) (l3 : Int32) (l6 : Int32) (M : eM), w_Mod_call_169 n l0 l1 l3 l6 M Q → e_E 194 d 0 0 169 [(0, .ref l0), (1, .int l1), (3, .int l3), (6, .int l6)] [] M (e_QV Q) := by
  induction n with
  | zero => intro l0 l1 l3 l6 M h; exact False.elim h
  | succ n ih =>
    intro l0 l1 l3 l6 M h
    have hk169 := ih
    refine r_iload (kd194 rfl) rfl rfl ?_
    refine r_aload_n (kd194 rfl) rfl rfl ?_
    obtain ⟨g, h⟩ := h
    refine r_get2 (kd194 rfl) (by decide) rfl g rfl ?_
    refine r_iload_n (kd194 rfl) rfl rfl ?_
    obtain ⟨g, h⟩ := h
    refine r_iaload (kd194 rfl) g rfl ?_
    refine r_icmp_ge (kd194 rfl) rfl (fun c => ?_) (fun c => ?_)
    · have h := h.1 c
      exact r_return (kd194 rfl) R194 h
    · have h := h.2 c
      refine r_aload_n (kd194 rfl) rfl rfl ?_
      obtain ⟨g, h⟩ := h
      refine r_get2 (kd194 rfl) (by decide) rfl g rfl ?_
      refine r_bipush (kd194 rfl) (y := 8) (by decide) rfl ?_
      refine r_iload_n (kd194 rfl) rfl rfl ?_
      refine r_imul (kd194 rfl) rfl ?_
      refine r_bipush (kd194 rfl) (y := 8) (by decide) rfl ?_
      refine r_iadd (kd194 rfl) rfl ?_
      refine r_iload (kd194 rfl) rfl rfl ?_
      refine r_iadd (kd194 rfl) rfl ?_
      refine r_aload_n (kd194 rfl) rfl rfl ?_
      obtain ⟨g, h⟩ := h
      refine r_get2 (kd194 rfl) (by decide) rfl g rfl ?_
      refine r_bipush (kd194 rfl) (y := 8) (by decide) rfl ?_
      refine r_iload_n (kd194 rfl) rfl rfl ?_
      refine r_imul (kd194 rfl) rfl ?_
      refine r_aload_n (kd194 rfl) rfl rfl ?_
      obtain ⟨g, h⟩ := h
      refine r_get2 (kd194 rfl) (by decide) rfl g rfl ?_
      refine r_iload_n (kd194 rfl) rfl rfl ?_
      obtain ⟨g, h⟩ := h
      refine r_iaload (kd194 rfl) g rfl ?_
      refine r_iadd (kd194 rfl) rfl ?_
      refine r_iload (kd194 rfl) rfl rfl ?_
      refine r_iadd (kd194 rfl) rfl ?_
      obtain ⟨g, h⟩ := h
      refine r_iaload (kd194 rfl) g rfl ?_
      obtain ⟨g, h⟩ := h
      have h := h _ rfl
      refine r_iastore (kd194 rfl) g rfl ?_
      refine r_iinc (kd194 rfl) rfl (y := 1) (by decide) L194 (by decide) rfl rfl ?_
      refine r_goto (kd194 rfl) ?_
      exact (hk169 _ _ _ _ _ h).less (e_sc (List.mem_of_getElem? (i := 1) rfl) (e_sc (List.mem_of_getElem? (i := 2) rfl) (e_sc (List.mem_of_getElem? (i := 3) rfl) (e_sc (List.mem_of_getElem? (i := 0) rfl) e_sn))))
set_option maxRecDepth 100000 in
def w_Mod_call_166 (l0 : Nat) (l1 : Int32) (l3 : Int32) (M : eM) (Q : eM → Prop) : Prop := ∃ n10 : Nat, w_Mod_call_169 n10 l0 l1 l3 0 M Q
set_option maxRecDepth 100000 in
theorem b_Mod_call_166 {d : Nat} {l0 : Nat} {l1 : Int32} {l3 : Int32} {M : eM} {Q : eM → Prop} (hd : 4 ≤ d) (h : w_Mod_call_166 l0 l1 l3 M Q ) : e_E 194 d 0 0 166 [(0, .ref l0), (1, .int l1), (3, .int l3)] [] M (e_QV Q) := by
  unfold w_Mod_call_166 at h
  refine r_iconst (kd194 rfl) (y := 0) (by decide) rfl ?_
  refine r_istore (kd194 rfl) L194 (by decide) rfl rfl ?_
  obtain ⟨n, h⟩ := h
  exact (b_Mod_call_169 hd n _ _ _ _ _ h).less (e_sc (List.mem_of_getElem? (i := 1) rfl) (e_sc (List.mem_of_getElem? (i := 2) rfl) (e_sc (List.mem_of_getElem? (i := 3) rfl) (e_sc (List.mem_of_getElem? (i := 0) rfl) e_sn))))
set_option maxRecDepth 100000 in
def w_Mod_call_105 (l0 : Nat) (l1 : Int32) (l3 : Int32) (l4 : Int32) (l5 : Int32) (M : eM) (Q : eM → Prop) : Prop := e_ob M l0 12 ∧ e_ar M (gr M l0 63) 20 l3 ∧ ∀ M5 : eM, M5 = e_si M (gr M l0 63) l3.toNatClampNeg l4 → e_ob M5 l0 12 ∧ e_ar M5 (gr M5 l0 62) 20 l3 ∧ ∀ M6 : eM, M6 = e_si M5 (gr M5 l0 62) l3.toNatClampNeg (l4 + 2) → e_ob M6 l0 12 ∧ e_ai M6 (gr M6 l0 67) l3 ∧ e_ob M6 l0 12 ∧ e_ai M6 (gr M6 l0 20) l1 ∧ e_ar M6 (gr M6 l0 67) 20 l3 ∧ ∀ M7 : eM, M7 = e_si M6 (gr M6 l0 67) l3.toNatClampNeg ((gi M6 (gr M6 l0 67) l3.toNatClampNeg) - (gi M6 (gr M6 l0 20) l1.toNatClampNeg)) → (¬ l5 = (-1) → e_ob M7 l0 12 ∧ e_ai M7 (gr M7 l0 65) l3 ∧ e_ob M7 l0 12 ∧ w_Mod_newFrame l0 l1 2 (gi M7 (gr M7 l0 65) l3.toNatClampNeg) l5 M7 (fun (M8 : eM) => w_Mod_call_166 l0 l1 l3 M8 Q)) ∧ (l5 = (-1) → e_ob M7 l0 12 ∧ w_Mod_invoke l0 l1 M7 (fun (M9 : eM) => w_Mod_call_166 l0 l1 l3 M9 Q))
set_option maxRecDepth 100000 in
theorem b_Mod_call_105 {d : Nat} {l0 : Nat} {l1 : Int32} {l3 : Int32} {l4 : Int32} {l5 : Int32} {M : eM} {Q : eM → Prop} (hd : 4 ≤ d) (h : w_Mod_call_105 l0 l1 l3 l4 l5 M Q ) : e_E 194 d 0 0 105 [(0, .ref l0), (1, .int l1), (3, .int l3), (4, .int l4), (5, .int l5)] [] M (e_QV Q) := by
  unfold w_Mod_call_105 at h
  refine r_aload_n (kd194 rfl) rfl rfl ?_
  obtain ⟨g, h⟩ := h
  refine r_get2 (kd194 rfl) (by decide) rfl g rfl ?_
  refine r_iload_n (kd194 rfl) rfl rfl ?_
  refine r_iload (kd194 rfl) rfl rfl ?_
  obtain ⟨g, h⟩ := h
  have h := h _ rfl
  refine r_iastore (kd194 rfl) g rfl ?_
  refine r_aload_n (kd194 rfl) rfl rfl ?_
  obtain ⟨g, h⟩ := h
  refine r_get2 (kd194 rfl) (by decide) rfl g rfl ?_
  refine r_iload_n (kd194 rfl) rfl rfl ?_
  refine r_iload (kd194 rfl) rfl rfl ?_
  refine r_iconst (kd194 rfl) (y := 2) (by decide) rfl ?_
  refine r_iadd (kd194 rfl) rfl ?_
  obtain ⟨g, h⟩ := h
  have h := h _ rfl
  refine r_iastore (kd194 rfl) g rfl ?_
  refine r_aload_n (kd194 rfl) rfl rfl ?_
  obtain ⟨g, h⟩ := h
  refine r_get2 (kd194 rfl) (by decide) rfl g rfl ?_
  refine r_iload_n (kd194 rfl) rfl rfl ?_
  refine r_dup2 (kd194 rfl) rfl rfl rfl ?_
  obtain ⟨g, h⟩ := h
  refine r_iaload (kd194 rfl) g rfl ?_
  refine r_aload_n (kd194 rfl) rfl rfl ?_
  obtain ⟨g, h⟩ := h
  refine r_get2 (kd194 rfl) (by decide) rfl g rfl ?_
  refine r_iload_n (kd194 rfl) rfl rfl ?_
  obtain ⟨g, h⟩ := h
  refine r_iaload (kd194 rfl) g rfl ?_
  refine r_isub (kd194 rfl) rfl ?_
  obtain ⟨g, h⟩ := h
  have h := h _ rfl
  refine r_iastore (kd194 rfl) g rfl ?_
  refine r_iload (kd194 rfl) rfl rfl ?_
  refine r_iconst (kd194 rfl) (y := (-1)) (by decide) rfl ?_
  refine r_icmp_ne (kd194 rfl) rfl (fun c => ?_) (fun c => ?_)
  · have h := h.1 c
    refine r_aload_n (kd194 rfl) rfl rfl ?_
    refine r_iload_n (kd194 rfl) rfl rfl ?_
    refine r_iconst (kd194 rfl) (y := 2) (by decide) rfl ?_
    refine r_aload_n (kd194 rfl) rfl rfl ?_
    obtain ⟨g, h⟩ := h
    refine r_get2 (kd194 rfl) (by decide) rfl g rfl ?_
    refine r_iload_n (kd194 rfl) rfl rfl ?_
    obtain ⟨g, h⟩ := h
    refine r_iaload (kd194 rfl) g rfl ?_
    refine r_iload (kd194 rfl) rfl rfl ?_
    obtain ⟨g, h⟩ := h
    refine r_callVV (d' := d - 1) (by omega) (kd194 rfl) (by decide) rfl rfl rfl rfl (Nat.le_of_ble_eq_true rfl) rfl L186 (Nat.le_of_ble_eq_true rfl) (Nat.le_of_ble_eq_true rfl) g (Nat.zero_le _) (Nat.zero_le _) rfl rfl rfl (b_Mod_newFrame (by omega) h) (fun M1 h => ?_)
    exact (b_Mod_call_166 hd h).less (e_sc (List.mem_of_getElem? (i := 0) rfl) (e_sc (List.mem_of_getElem? (i := 1) rfl) (e_sc (List.mem_of_getElem? (i := 2) rfl) e_sn)))
  · have h := h.2 c
    refine r_aload_n (kd194 rfl) rfl rfl ?_
    refine r_iload_n (kd194 rfl) rfl rfl ?_
    obtain ⟨g, h⟩ := h
    refine r_callVV (d' := d - 1) (by omega) (kd194 rfl) (by decide) rfl rfl rfl rfl (Nat.le_of_ble_eq_true rfl) rfl L188 (Nat.le_of_ble_eq_true rfl) (Nat.le_of_ble_eq_true rfl) g (Nat.zero_le _) (Nat.zero_le _) rfl rfl rfl (b_Mod_invoke (by omega) h) (fun M1 h => ?_)
    refine r_goto (kd194 rfl) ?_
    exact (b_Mod_call_166 hd h).less (e_sc (List.mem_of_getElem? (i := 0) rfl) (e_sc (List.mem_of_getElem? (i := 1) rfl) (e_sc (List.mem_of_getElem? (i := 2) rfl) e_sn)))
set_option maxRecDepth 100000 in
def w_Mod_call_70 (l0 : Nat) (l1 : Int32) (l2 : Int32) (l3 : Int32) (l4 : Int32) (l5 : Int32) (M : eM) (Q : eM → Prop) : Prop := e_ob M l0 12 ∧ e_ai M (gr M l0 64) l3 ∧ (¬ (gi M (gr M l0 64) l3.toNatClampNeg) = 0 → w_Mod_call_105 l0 l1 l3 l4 l5 M Q) ∧ ((gi M (gr M l0 64) l3.toNatClampNeg) = 0 → e_ob M l0 12 ∧ e_ob M l0 12 ∧ e_ai M (gr M l0 61) l3 ∧ e_ai M (gr M l0 51) ((8 * ((120 * (gi M (gr M l0 61) l3.toNatClampNeg)) + l4)) + l2) ∧ e_ar M (gr M l0 51) 20 ((8 * ((120 * (gi M (gr M l0 61) l3.toNatClampNeg)) + l4)) + l2) ∧ ∀ M4 : eM, M4 = e_si M (gr M l0 51) ((8 * ((120 * (gi M (gr M l0 61) l3.toNatClampNeg)) + l4)) + l2).toNatClampNeg ((gi M (gr M l0 51) ((8 * ((120 * (gi M (gr M l0 61) l3.toNatClampNeg)) + l4)) + l2).toNatClampNeg) + 1) → w_Mod_call_105 l0 l1 l3 l4 l5 M4 Q)
set_option maxRecDepth 100000 in
theorem b_Mod_call_70 {d : Nat} {l0 : Nat} {l1 : Int32} {l2 : Int32} {l3 : Int32} {l4 : Int32} {l5 : Int32} {M : eM} {Q : eM → Prop} (hd : 4 ≤ d) (h : w_Mod_call_70 l0 l1 l2 l3 l4 l5 M Q ) : e_E 194 d 0 0 70 [(0, .ref l0), (1, .int l1), (2, .int l2), (3, .int l3), (4, .int l4), (5, .int l5)] [] M (e_QV Q) := by
  unfold w_Mod_call_70 at h
  refine r_aload_n (kd194 rfl) rfl rfl ?_
  obtain ⟨g, h⟩ := h
  refine r_get2 (kd194 rfl) (by decide) rfl g rfl ?_
  refine r_iload_n (kd194 rfl) rfl rfl ?_
  obtain ⟨g, h⟩ := h
  refine r_iaload (kd194 rfl) g rfl ?_
  refine r_if_ne (kd194 rfl) rfl (fun c => ?_) (fun c => ?_)
  · have h := h.1 c
    exact (b_Mod_call_105 hd h).less (e_sc (List.mem_of_getElem? (i := 0) rfl) (e_sc (List.mem_of_getElem? (i := 1) rfl) (e_sc (List.mem_of_getElem? (i := 3) rfl) (e_sc (List.mem_of_getElem? (i := 4) rfl) (e_sc (List.mem_of_getElem? (i := 5) rfl) e_sn)))))
  · have h := h.2 c
    refine r_aload_n (kd194 rfl) rfl rfl ?_
    obtain ⟨g, h⟩ := h
    refine r_get2 (kd194 rfl) (by decide) rfl g rfl ?_
    refine r_bipush (kd194 rfl) (y := 8) (by decide) rfl ?_
    refine r_bipush (kd194 rfl) (y := 120) (by decide) rfl ?_
    refine r_aload_n (kd194 rfl) rfl rfl ?_
    obtain ⟨g, h⟩ := h
    refine r_get2 (kd194 rfl) (by decide) rfl g rfl ?_
    refine r_iload_n (kd194 rfl) rfl rfl ?_
    obtain ⟨g, h⟩ := h
    refine r_iaload (kd194 rfl) g rfl ?_
    refine r_imul (kd194 rfl) rfl ?_
    refine r_iload (kd194 rfl) rfl rfl ?_
    refine r_iadd (kd194 rfl) rfl ?_
    refine r_imul (kd194 rfl) rfl ?_
    refine r_iload_n (kd194 rfl) rfl rfl ?_
    refine r_iadd (kd194 rfl) rfl ?_
    refine r_dup2 (kd194 rfl) rfl rfl rfl ?_
    obtain ⟨g, h⟩ := h
    refine r_iaload (kd194 rfl) g rfl ?_
    refine r_iconst (kd194 rfl) (y := 1) (by decide) rfl ?_
    refine r_iadd (kd194 rfl) rfl ?_
    obtain ⟨g, h⟩ := h
    have h := h _ rfl
    refine r_iastore (kd194 rfl) g rfl ?_
    exact (b_Mod_call_105 hd h).less (e_sc (List.mem_of_getElem? (i := 0) rfl) (e_sc (List.mem_of_getElem? (i := 1) rfl) (e_sc (List.mem_of_getElem? (i := 3) rfl) (e_sc (List.mem_of_getElem? (i := 4) rfl) (e_sc (List.mem_of_getElem? (i := 5) rfl) e_sn)))))
set_option maxRecDepth 100000 in
def w_Mod_call (l0 : Nat) (l1 : Int32) (l2 : Int32) (M : eM) (Q : eM → Prop) : Prop := e_ob M l0 12 ∧ e_ob M l0 12 ∧ e_ai M (gr M l0 62) ((gi M l0 60) - 1) ∧ e_ob M l0 12 ∧ w_Mod_siteAt l0 ((gi M l0 60) - 1) M (fun (v2 : Int32) (M1 : eM) => (v2 = (-1) → w_Mod_call_70 l0 l1 l2 ((gi M l0 60) - 1) (gi M (gr M l0 62) ((gi M l0 60) - 1).toNatClampNeg) v2 M1 Q) ∧ (¬ v2 = (-1) → e_ob M1 l0 12 ∧ e_ai M1 (gr M1 l0 59) ((6 * v2) + 3) ∧ ((gi M1 (gr M1 l0 59) ((6 * v2) + 3).toNatClampNeg) = (-1) → w_Mod_call_70 l0 l1 l2 ((gi M l0 60) - 1) (gi M (gr M l0 62) ((gi M l0 60) - 1).toNatClampNeg) v2 M1 Q) ∧ (¬ (gi M1 (gr M1 l0 59) ((6 * v2) + 3).toNatClampNeg) = (-1) → e_ob M1 l0 12 ∧ e_ai M1 (gr M1 l0 59) ((6 * v2) + 3) ∧ ((gi M1 (gr M1 l0 59) ((6 * v2) + 3).toNatClampNeg) = l2 → w_Mod_call_70 l0 l1 l2 ((gi M l0 60) - 1) (gi M (gr M l0 62) ((gi M l0 60) - 1).toNatClampNeg) v2 M1 Q) ∧ (¬ (gi M1 (gr M1 l0 59) ((6 * v2) + 3).toNatClampNeg) = l2 → e_ob M1 l0 12 ∧ w_Mod_fail l0 ((gi M l0 60) - 1) (gi M (gr M l0 62) ((gi M l0 60) - 1).toNatClampNeg) M1 (fun (M3 : eM) => w_Mod_call_70 l0 l1 l2 ((gi M l0 60) - 1) (gi M (gr M l0 62) ((gi M l0 60) - 1).toNatClampNeg) (-1) M3 Q)))))
set_option maxRecDepth 100000 in
theorem b_Mod_call {d : Nat} {l0 : Nat} {l1 : Int32} {l2 : Int32} {M : eM} {Q : eM → Prop} (hd : 4 ≤ d) (h : w_Mod_call l0 l1 l2 M Q) : e_CV 194 d 0 0 [.ref l0, .int l1, .int l2] M Q := by
  unfold w_Mod_call at h
  show e_E 194 d 0 0 0 [(0, .ref l0), (1, .int l1), (2, .int l2)] [] M (e_QV Q)
  refine r_aload_n (kd194 rfl) rfl rfl ?_
  obtain ⟨g, h⟩ := h
  refine r_get0 (kd194 rfl) (by decide) rfl g rfl ?_
  refine r_iconst (kd194 rfl) (y := 1) (by decide) rfl ?_
  refine r_isub (kd194 rfl) rfl ?_
  refine r_istore_n (kd194 rfl) L194 (by decide) rfl rfl ?_
  refine r_aload_n (kd194 rfl) rfl rfl ?_
  obtain ⟨g, h⟩ := h
  refine r_get2 (kd194 rfl) (by decide) rfl g rfl ?_
  refine r_iload_n (kd194 rfl) rfl rfl ?_
  obtain ⟨g, h⟩ := h
  refine r_iaload (kd194 rfl) g rfl ?_
  refine r_istore (kd194 rfl) L194 (by decide) rfl rfl ?_
  refine r_aload_n (kd194 rfl) rfl rfl ?_
  refine r_iload_n (kd194 rfl) rfl rfl ?_
  obtain ⟨g, h⟩ := h
  refine r_callVI (d' := d - 1) (by omega) (kd194 rfl) (by decide) rfl rfl rfl rfl (Nat.le_of_ble_eq_true rfl) rfl L192 (Nat.le_of_ble_eq_true rfl) (Nat.le_of_ble_eq_true rfl) g (Nat.zero_le _) (Nat.zero_le _) rfl rfl rfl (b_Mod_siteAt (by omega) h) (fun x1 M1 h => ?_)
  refine r_istore (kd194 rfl) L194 (by decide) rfl rfl ?_
  refine r_iload (kd194 rfl) rfl rfl ?_
  refine r_iconst (kd194 rfl) (y := (-1)) (by decide) rfl ?_
  refine r_icmp_eq (kd194 rfl) rfl (fun c => ?_) (fun c => ?_)
  · have h := h.1 c
    exact (b_Mod_call_70 hd h).less (e_sc (List.mem_of_getElem? (i := 3) rfl) (e_sc (List.mem_of_getElem? (i := 4) rfl) (e_sc (List.mem_of_getElem? (i := 5) rfl) (e_sc (List.mem_of_getElem? (i := 2) rfl) (e_sc (List.mem_of_getElem? (i := 1) rfl) (e_sc (List.mem_of_getElem? (i := 0) rfl) e_sn))))))
  · have h := h.2 c
    refine r_aload_n (kd194 rfl) rfl rfl ?_
    obtain ⟨g, h⟩ := h
    refine r_get2 (kd194 rfl) (by decide) rfl g rfl ?_
    refine r_bipush (kd194 rfl) (y := 6) (by decide) rfl ?_
    refine r_iload (kd194 rfl) rfl rfl ?_
    refine r_imul (kd194 rfl) rfl ?_
    refine r_iconst (kd194 rfl) (y := 3) (by decide) rfl ?_
    refine r_iadd (kd194 rfl) rfl ?_
    obtain ⟨g, h⟩ := h
    refine r_iaload (kd194 rfl) g rfl ?_
    refine r_iconst (kd194 rfl) (y := (-1)) (by decide) rfl ?_
    refine r_icmp_eq (kd194 rfl) rfl (fun c => ?_) (fun c => ?_)
    · have h := h.1 c
      exact (b_Mod_call_70 hd h).less (e_sc (List.mem_of_getElem? (i := 3) rfl) (e_sc (List.mem_of_getElem? (i := 4) rfl) (e_sc (List.mem_of_getElem? (i := 5) rfl) (e_sc (List.mem_of_getElem? (i := 2) rfl) (e_sc (List.mem_of_getElem? (i := 1) rfl) (e_sc (List.mem_of_getElem? (i := 0) rfl) e_sn))))))
    · have h := h.2 c
      refine r_aload_n (kd194 rfl) rfl rfl ?_
      obtain ⟨g, h⟩ := h
      refine r_get2 (kd194 rfl) (by decide) rfl g rfl ?_
      refine r_bipush (kd194 rfl) (y := 6) (by decide) rfl ?_
      refine r_iload (kd194 rfl) rfl rfl ?_
      refine r_imul (kd194 rfl) rfl ?_
      refine r_iconst (kd194 rfl) (y := 3) (by decide) rfl ?_
      refine r_iadd (kd194 rfl) rfl ?_
      obtain ⟨g, h⟩ := h
      refine r_iaload (kd194 rfl) g rfl ?_
      refine r_iload_n (kd194 rfl) rfl rfl ?_
      refine r_icmp_eq (kd194 rfl) rfl (fun c => ?_) (fun c => ?_)
      · have h := h.1 c
        exact (b_Mod_call_70 hd h).less (e_sc (List.mem_of_getElem? (i := 3) rfl) (e_sc (List.mem_of_getElem? (i := 4) rfl) (e_sc (List.mem_of_getElem? (i := 5) rfl) (e_sc (List.mem_of_getElem? (i := 2) rfl) (e_sc (List.mem_of_getElem? (i := 1) rfl) (e_sc (List.mem_of_getElem? (i := 0) rfl) e_sn))))))
      · have h := h.2 c
        refine r_aload_n (kd194 rfl) rfl rfl ?_
        refine r_iload_n (kd194 rfl) rfl rfl ?_
        refine r_iload (kd194 rfl) rfl rfl ?_
        obtain ⟨g, h⟩ := h
        refine r_callVV (d' := d - 1) (by omega) (kd194 rfl) (by decide) rfl rfl rfl rfl (Nat.le_of_ble_eq_true rfl) rfl L193 (Nat.le_of_ble_eq_true rfl) (Nat.le_of_ble_eq_true rfl) g (Nat.zero_le _) (Nat.zero_le _) rfl rfl rfl (b_Mod_fail (by omega) h) (fun M1 h => ?_)
        refine r_iconst (kd194 rfl) (y := (-1)) (by decide) rfl ?_
        refine r_istore (kd194 rfl) L194 (by decide) rfl rfl ?_
        exact (b_Mod_call_70 hd h).less (e_sc (List.mem_of_getElem? (i := 3) rfl) (e_sc (List.mem_of_getElem? (i := 4) rfl) (e_sc (List.mem_of_getElem? (i := 5) rfl) (e_sc (List.mem_of_getElem? (i := 2) rfl) (e_sc (List.mem_of_getElem? (i := 1) rfl) (e_sc (List.mem_of_getElem? (i := 0) rfl) e_sn))))))
/-- TierMillModel.objectOf(I)I -/
theorem kd195 {pc : Nat} {q : eI} (h : e_d195.lookup pc = some q) : e_dec 195 pc = some q := h
theorem L195 : (e_m 195).2.2.1 = 5 := rfl
theorem R195 : (e_m 195).2.2.2.1 = (some .int) := rfl
def w_Mod_objectOf_43 (l0 : Nat) (l1 : Int32) (l2 : Int32) (l3 : Int32) (M : eM) (Q : Int32 → eM → Prop) (k9 : Nat → Int32 → Int32 → Int32 → eM → Prop) : Prop := k9 l0 l1 l2 l3 M
theorem b_Mod_objectOf_43 {d : Nat} {l0 : Nat} {l1 : Int32} {l2 : Int32} {l3 : Int32} {M : eM} {Q : Int32 → eM → Prop} {k9 : Nat → Int32 → Int32 → Int32 → eM → Prop} (hd : 0 ≤ d) (hk9 : ∀ (l0 : Nat) (l1 : Int32) (l2 : Int32) (l3 : Int32) (M : eM), k9 l0 l1 l2 l3 M → e_E 195 d 0 0 9 [(0, .ref l0), (1, .int l1), (2, .int l2), (3, .int l3)] [] M (e_QI Q)) (h : w_Mod_objectOf_43 l0 l1 l2 l3 M Q k9) : e_E 195 d 0 0 43 [(0, .ref l0), (1, .int l1), (2, .int l2), (3, .int l3)] [] M (e_QI Q) := by
  unfold w_Mod_objectOf_43 at h
  refine r_goto (kd195 rfl) ?_
  exact (hk9 _ _ _ _ _ h).less (e_sc (List.mem_of_getElem? (i := 0) rfl) (e_sc (List.mem_of_getElem? (i := 1) rfl) (e_sc (List.mem_of_getElem? (i := 2) rfl) (e_sc (List.mem_of_getElem? (i := 3) rfl) e_sn))))
def w_Mod_objectOf_9 : Nat → Nat → Int32 → Int32 → Int32 → eM → (Int32 → eM → Prop) → Prop
  | 0, _, _, _, _, _, _ => False
  | n + 1, l0, l1, l2, l3, M, Q => (l3 ≤ l2 → Q l2 M) ∧ (¬ l3 ≤ l2 → ¬ (2 : Int32) = 0 ∧ e_ob M l0 12 ∧ e_ai M (gr M l0 74) ((l2 + l3) / 2) ∧ (l1 ≤ (gi M (gr M l0 74) ((l2 + l3) / 2).toNatClampNeg) → w_Mod_objectOf_43 l0 l1 l2 ((l2 + l3) / 2) M Q (fun l0 l1 l2 l3 M => w_Mod_objectOf_9 n l0 l1 l2 l3 M Q )) ∧ (¬ l1 ≤ (gi M (gr M l0 74) ((l2 + l3) / 2).toNatClampNeg) → w_Mod_objectOf_43 l0 l1 (((l2 + l3) / 2) + 1) l3 M Q (fun l0 l1 l2 l3 M => w_Mod_objectOf_9 n l0 l1 l2 l3 M Q )))
theorem b_Mod_objectOf_9 {d : Nat} {Q : Int32 → eM → Prop} (hd : 0 ≤ d) (n : Nat) : ∀ (l0 : Nat) (l1 : Int32) (l2 : Int32) (l3 : Int32) (M : eM), w_Mod_objectOf_9 n l0 l1 l2 l3 M Q → e_E 195 d 0 0 9 [(0, .ref l0), (1, .int l1), (2, .int l2), (3, .int l3)] [] M (e_QI Q) := by
  induction n with
  | zero => intro l0 l1 l2 l3 M h; exact False.elim h
  | succ n ih =>
    intro l0 l1 l2 l3 M h
    have hk9 := ih
    refine r_iload_n (kd195 rfl) rfl rfl ?_
    refine r_iload_n (kd195 rfl) rfl rfl ?_
    refine r_icmp_ge (kd195 rfl) rfl (fun c => ?_) (fun c => ?_)
    · have h := h.1 c
      refine r_iload_n (kd195 rfl) rfl rfl ?_
      exact r_ireturn (kd195 rfl) R195 h
    · have h := h.2 c
      refine r_iload_n (kd195 rfl) rfl rfl ?_
      refine r_iload_n (kd195 rfl) rfl rfl ?_
      refine r_iadd (kd195 rfl) rfl ?_
      refine r_iconst (kd195 rfl) (y := 2) (by decide) rfl ?_
      obtain ⟨g, h⟩ := h
      refine r_idiv (kd195 rfl) g rfl ?_
      refine r_istore (kd195 rfl) L195 (by decide) rfl rfl ?_
      refine r_aload_n (kd195 rfl) rfl rfl ?_
      obtain ⟨g, h⟩ := h
      refine r_get2 (kd195 rfl) (by decide) rfl g rfl ?_
      refine r_iload (kd195 rfl) rfl rfl ?_
      obtain ⟨g, h⟩ := h
      refine r_iaload (kd195 rfl) g rfl ?_
      refine r_iload_n (kd195 rfl) rfl rfl ?_
      refine r_icmp_ge (kd195 rfl) rfl (fun c => ?_) (fun c => ?_)
      · have h := h.1 c
        refine r_iload (kd195 rfl) rfl rfl ?_
        refine r_istore_n (kd195 rfl) L195 (by decide) rfl rfl ?_
        exact (b_Mod_objectOf_43 hd hk9 h).less (e_sc (List.mem_of_getElem? (i := 2) rfl) (e_sc (List.mem_of_getElem? (i := 3) rfl) (e_sc (List.mem_of_getElem? (i := 4) rfl) (e_sc (List.mem_of_getElem? (i := 0) rfl) e_sn))))
      · have h := h.2 c
        refine r_iload (kd195 rfl) rfl rfl ?_
        refine r_iconst (kd195 rfl) (y := 1) (by decide) rfl ?_
        refine r_iadd (kd195 rfl) rfl ?_
        refine r_istore_n (kd195 rfl) L195 (by decide) rfl rfl ?_
        refine r_goto (kd195 rfl) ?_
        exact (b_Mod_objectOf_43 hd hk9 h).less (e_sc (List.mem_of_getElem? (i := 2) rfl) (e_sc (List.mem_of_getElem? (i := 3) rfl) (e_sc (List.mem_of_getElem? (i := 0) rfl) (e_sc (List.mem_of_getElem? (i := 4) rfl) e_sn))))
def w_Mod_objectOf (l0 : Nat) (l1 : Int32) (M : eM) (Q : Int32 → eM → Prop) : Prop := e_ob M l0 12 ∧ ∃ n1 : Nat, w_Mod_objectOf_9 n1 l0 l1 0 ((gi M l0 73) - 1) M Q
theorem b_Mod_objectOf {d : Nat} {l0 : Nat} {l1 : Int32} {M : eM} {Q : Int32 → eM → Prop} (hd : 0 ≤ d) (h : w_Mod_objectOf l0 l1 M Q) : e_CI 195 d 0 0 [.ref l0, .int l1] M Q := by
  unfold w_Mod_objectOf at h
  show e_E 195 d 0 0 0 [(0, .ref l0), (1, .int l1)] [] M (e_QI Q)
  refine r_iconst (kd195 rfl) (y := 0) (by decide) rfl ?_
  refine r_istore_n (kd195 rfl) L195 (by decide) rfl rfl ?_
  refine r_aload_n (kd195 rfl) rfl rfl ?_
  obtain ⟨g, h⟩ := h
  refine r_get0 (kd195 rfl) (by decide) rfl g rfl ?_
  refine r_iconst (kd195 rfl) (y := 1) (by decide) rfl ?_
  refine r_isub (kd195 rfl) rfl ?_
  refine r_istore_n (kd195 rfl) L195 (by decide) rfl rfl ?_
  obtain ⟨n, h⟩ := h
  exact (b_Mod_objectOf_9 hd n _ _ _ _ _ h).less (e_sc (List.mem_of_getElem? (i := 2) rfl) (e_sc (List.mem_of_getElem? (i := 3) rfl) (e_sc (List.mem_of_getElem? (i := 1) rfl) (e_sc (List.mem_of_getElem? (i := 0) rfl) e_sn))))
/-- TierMillModel.reach(I)V -/
theorem kd196 {pc : Nat} {q : eI} (h : e_d196.lookup pc = some q) : e_dec 196 pc = some q := h
theorem L196 : (e_m 196).2.2.1 = 3 := rfl
theorem R196 : (e_m 196).2.2.2.1 = none := rfl
def w_Mod_reach (l0 : Nat) (l1 : Int32) (M : eM) (Q : eM → Prop) : Prop := (¬ l1 = 0 → e_ob M l0 12 ∧ w_Mod_objectOf l0 l1 M (fun (v2 : Int32) (M1 : eM) => e_ob M1 l0 12 ∧ e_ar M1 (gr M1 l0 78) 22 v2 ∧ ((gi M1 (gr M1 l0 78) v2.toNatClampNeg) = 0 → e_ob M1 l0 12 ∧ e_ar M1 (gr M1 l0 78) 22 v2 ∧ ∀ M3 : eM, M3 = e_si M1 (gr M1 l0 78) v2.toNatClampNeg (vp_nar .boolean 1) → e_ob M3 l0 12 ∧ e_ob M3 l0 12 ∧ e_ar M3 (gr M3 l0 89) 20 (gi M3 l0 88) ∧ ∀ M4 : eM, M4 = e_si M3 (gr M3 l0 89) (gi M3 l0 88).toNatClampNeg v2 → e_ob M4 l0 12 ∧ e_ob M4 l0 12 ∧ ∀ M5 : eM, M5 = e_si M4 l0 88 ((gi M4 l0 88) + 1) → Q M5) ∧ (¬ (gi M1 (gr M1 l0 78) v2.toNatClampNeg) = 0 → Q M1))) ∧ (l1 = 0 → Q M)
theorem b_Mod_reach {d : Nat} {l0 : Nat} {l1 : Int32} {M : eM} {Q : eM → Prop} (hd : 1 ≤ d) (h : w_Mod_reach l0 l1 M Q) : e_CV 196 d 0 0 [.ref l0, .int l1] M Q := by
  unfold w_Mod_reach at h
  show e_E 196 d 0 0 0 [(0, .ref l0), (1, .int l1)] [] M (e_QV Q)
  refine r_iload_n (kd196 rfl) rfl rfl ?_
  refine r_if_ne (kd196 rfl) rfl (fun c => ?_) (fun c => ?_)
  · have h := h.1 c
    refine r_aload_n (kd196 rfl) rfl rfl ?_
    refine r_iload_n (kd196 rfl) rfl rfl ?_
    obtain ⟨g, h⟩ := h
    refine r_callVI (d' := d - 1) (by omega) (kd196 rfl) (by decide) rfl rfl rfl rfl (Nat.le_of_ble_eq_true rfl) rfl L195 (Nat.le_of_ble_eq_true rfl) (Nat.le_of_ble_eq_true rfl) g (Nat.zero_le _) (Nat.zero_le _) rfl rfl rfl (b_Mod_objectOf (by omega) h) (fun x1 M1 h => ?_)
    refine r_istore_n (kd196 rfl) L196 (by decide) rfl rfl ?_
    refine r_aload_n (kd196 rfl) rfl rfl ?_
    obtain ⟨g, h⟩ := h
    refine r_get2 (kd196 rfl) (by decide) rfl g rfl ?_
    refine r_iload_n (kd196 rfl) rfl rfl ?_
    obtain ⟨g, h⟩ := h
    refine r_baload (kd196 rfl) g rfl ?_
    refine r_if_eq (kd196 rfl) rfl (fun c => ?_) (fun c => ?_)
    · have h := h.1 c
      refine r_aload_n (kd196 rfl) rfl rfl ?_
      obtain ⟨g, h⟩ := h
      refine r_get2 (kd196 rfl) (by decide) rfl g rfl ?_
      refine r_iload_n (kd196 rfl) rfl rfl ?_
      refine r_iconst (kd196 rfl) (y := 1) (by decide) rfl ?_
      obtain ⟨g, h⟩ := h
      have h := h _ rfl
      refine r_bastore (kd196 rfl) g rfl ?_
      refine r_aload_n (kd196 rfl) rfl rfl ?_
      obtain ⟨g, h⟩ := h
      refine r_get2 (kd196 rfl) (by decide) rfl g rfl ?_
      refine r_aload_n (kd196 rfl) rfl rfl ?_
      obtain ⟨g, h⟩ := h
      refine r_get0 (kd196 rfl) (by decide) rfl g rfl ?_
      refine r_iload_n (kd196 rfl) rfl rfl ?_
      obtain ⟨g, h⟩ := h
      have h := h _ rfl
      refine r_iastore (kd196 rfl) g rfl ?_
      refine r_aload_n (kd196 rfl) rfl rfl ?_
      refine r_dup (kd196 rfl) rfl rfl ?_
      obtain ⟨g, h⟩ := h
      refine r_get0 (kd196 rfl) (by decide) rfl g rfl ?_
      refine r_iconst (kd196 rfl) (y := 1) (by decide) rfl ?_
      refine r_iadd (kd196 rfl) rfl ?_
      obtain ⟨g, h⟩ := h
      have h := h _ rfl
      refine r_put0 (kd196 rfl) (by decide) rfl g rfl ?_
      exact r_return (kd196 rfl) R196 h
    · have h := h.2 c
      exact r_return (kd196 rfl) R196 h
  · have h := h.2 c
    exact r_return (kd196 rfl) R196 h
/-- TierMillModel.reachFields(I)V -/
theorem kd197 {pc : Nat} {q : eI} (h : e_d197.lookup pc = some q) : e_dec 197 pc = some q := h
theorem L197 : (e_m 197).2.2.1 = 3 := rfl
theorem R197 : (e_m 197).2.2.2.1 = none := rfl
def w_Mod_reachFields_60 (l0 : Nat) (l1 : Int32) (l2 : Int32) (M : eM) (Q : eM → Prop) (k2 : Nat → Int32 → Int32 → eM → Prop) : Prop := k2 l0 l1 (l2 + 1) M
theorem b_Mod_reachFields_60 {d : Nat} {l0 : Nat} {l1 : Int32} {l2 : Int32} {M : eM} {Q : eM → Prop} {k2 : Nat → Int32 → Int32 → eM → Prop} (hd : 2 ≤ d) (hk2 : ∀ (l0 : Nat) (l1 : Int32) (l2 : Int32) (M : eM), k2 l0 l1 l2 M → e_E 197 d 0 0 2 [(0, .ref l0), (1, .int l1), (2, .int l2)] [] M (e_QV Q)) (h : w_Mod_reachFields_60 l0 l1 l2 M Q k2) : e_E 197 d 0 0 60 [(0, .ref l0), (1, .int l1), (2, .int l2)] [] M (e_QV Q) := by
  unfold w_Mod_reachFields_60 at h
  refine r_iinc (kd197 rfl) rfl (y := 1) (by decide) L197 (by decide) rfl rfl ?_
  refine r_goto (kd197 rfl) ?_
  exact (hk2 _ _ _ _ h).less (e_sc (List.mem_of_getElem? (i := 1) rfl) (e_sc (List.mem_of_getElem? (i := 2) rfl) (e_sc (List.mem_of_getElem? (i := 0) rfl) e_sn)))
def w_Mod_reachFields_66 (M : eM) (Q : eM → Prop) : Prop := Q M
theorem b_Mod_reachFields_66 {d : Nat} {M : eM} {Q : eM → Prop} (hd : 2 ≤ d) (h : w_Mod_reachFields_66 M Q ) : e_E 197 d 0 0 66 [] [] M (e_QV Q) := by
  unfold w_Mod_reachFields_66 at h
  exact r_return (kd197 rfl) R197 h
def w_Mod_reachFields_2 : Nat → Nat → Int32 → Int32 → eM → (eM → Prop) → Prop
  | 0, _, _, _, _, _ => False
  | n + 1, l0, l1, l2, M, Q => e_ob M l0 12 ∧ e_ai M (gr M l0 75) l1 ∧ (16 ≤ (gi M (gr M l0 75) l1.toNatClampNeg) → w_Mod_reachFields_66  M Q) ∧ (¬ 16 ≤ (gi M (gr M l0 75) l1.toNatClampNeg) → e_ob M l0 12 ∧ e_ai M (gr M l0 77) l1 ∧ ((gi M (gr M l0 77) l1.toNatClampNeg) ≤ l2 → w_Mod_reachFields_66  M Q) ∧ (¬ (gi M (gr M l0 77) l1.toNatClampNeg) ≤ l2 → e_ob M l0 12 ∧ e_ob M l0 12 ∧ e_ai M (gr M l0 75) l1 ∧ e_ai M (gr M l0 14) ((8 * (gi M (gr M l0 75) l1.toNatClampNeg)) + l2) ∧ ((gi M (gr M l0 14) ((8 * (gi M (gr M l0 75) l1.toNatClampNeg)) + l2).toNatClampNeg) = 1 → w_Mod_reachFields_60 l0 l1 l2 M Q (fun l0 l1 l2 M => w_Mod_reachFields_2 n l0 l1 l2 M Q )) ∧ (¬ (gi M (gr M l0 14) ((8 * (gi M (gr M l0 75) l1.toNatClampNeg)) + l2).toNatClampNeg) = 1 → e_ob M l0 12 ∧ e_ob M l0 12 ∧ e_ai M (gr M l0 76) l1 ∧ e_ai M (gr M l0 80) ((gi M (gr M l0 76) l1.toNatClampNeg) + l2) ∧ e_ob M l0 12 ∧ w_Mod_reach l0 (gi M (gr M l0 80) ((gi M (gr M l0 76) l1.toNatClampNeg) + l2).toNatClampNeg) M (fun (M2 : eM) => w_Mod_reachFields_60 l0 l1 l2 M2 Q (fun l0 l1 l2 M => w_Mod_reachFields_2 n l0 l1 l2 M Q )))))
theorem b_Mod_reachFields_2 {d : Nat} {Q : eM → Prop} (hd : 2 ≤ d) (n : Nat) : ∀ (l0 : Nat) (l1 : Int32) (l2 : Int32) (M : eM), w_Mod_reachFields_2 n l0 l1 l2 M Q → e_E 197 d 0 0 2 [(0, .ref l0), (1, .int l1), (2, .int l2)] [] M (e_QV Q) := by
  induction n with
  | zero => intro l0 l1 l2 M h; exact False.elim h
  | succ n ih =>
    intro l0 l1 l2 M h
    have hk2 := ih
    refine r_aload_n (kd197 rfl) rfl rfl ?_
    obtain ⟨g, h⟩ := h
    refine r_get2 (kd197 rfl) (by decide) rfl g rfl ?_
    refine r_iload_n (kd197 rfl) rfl rfl ?_
    obtain ⟨g, h⟩ := h
    refine r_iaload (kd197 rfl) g rfl ?_
    refine r_bipush (kd197 rfl) (y := 16) (by decide) rfl ?_
    refine r_icmp_ge (kd197 rfl) rfl (fun c => ?_) (fun c => ?_)
    · have h := h.1 c
      exact (b_Mod_reachFields_66 hd h).less e_sn
    · have h := h.2 c
      refine r_iload_n (kd197 rfl) rfl rfl ?_
      refine r_aload_n (kd197 rfl) rfl rfl ?_
      obtain ⟨g, h⟩ := h
      refine r_get2 (kd197 rfl) (by decide) rfl g rfl ?_
      refine r_iload_n (kd197 rfl) rfl rfl ?_
      obtain ⟨g, h⟩ := h
      refine r_iaload (kd197 rfl) g rfl ?_
      refine r_icmp_ge (kd197 rfl) rfl (fun c => ?_) (fun c => ?_)
      · have h := h.1 c
        exact (b_Mod_reachFields_66 hd h).less e_sn
      · have h := h.2 c
        refine r_aload_n (kd197 rfl) rfl rfl ?_
        obtain ⟨g, h⟩ := h
        refine r_get2 (kd197 rfl) (by decide) rfl g rfl ?_
        refine r_bipush (kd197 rfl) (y := 8) (by decide) rfl ?_
        refine r_aload_n (kd197 rfl) rfl rfl ?_
        obtain ⟨g, h⟩ := h
        refine r_get2 (kd197 rfl) (by decide) rfl g rfl ?_
        refine r_iload_n (kd197 rfl) rfl rfl ?_
        obtain ⟨g, h⟩ := h
        refine r_iaload (kd197 rfl) g rfl ?_
        refine r_imul (kd197 rfl) rfl ?_
        refine r_iload_n (kd197 rfl) rfl rfl ?_
        refine r_iadd (kd197 rfl) rfl ?_
        obtain ⟨g, h⟩ := h
        refine r_iaload (kd197 rfl) g rfl ?_
        refine r_iconst (kd197 rfl) (y := 1) (by decide) rfl ?_
        refine r_icmp_eq (kd197 rfl) rfl (fun c => ?_) (fun c => ?_)
        · have h := h.1 c
          exact (b_Mod_reachFields_60 hd hk2 h).less (e_sc (List.mem_of_getElem? (i := 0) rfl) (e_sc (List.mem_of_getElem? (i := 1) rfl) (e_sc (List.mem_of_getElem? (i := 2) rfl) e_sn)))
        · have h := h.2 c
          refine r_aload_n (kd197 rfl) rfl rfl ?_
          refine r_aload_n (kd197 rfl) rfl rfl ?_
          obtain ⟨g, h⟩ := h
          refine r_get2 (kd197 rfl) (by decide) rfl g rfl ?_
          refine r_aload_n (kd197 rfl) rfl rfl ?_
          obtain ⟨g, h⟩ := h
          refine r_get2 (kd197 rfl) (by decide) rfl g rfl ?_
          refine r_iload_n (kd197 rfl) rfl rfl ?_
          obtain ⟨g, h⟩ := h
          refine r_iaload (kd197 rfl) g rfl ?_
          refine r_iload_n (kd197 rfl) rfl rfl ?_
          refine r_iadd (kd197 rfl) rfl ?_
          obtain ⟨g, h⟩ := h
          refine r_iaload (kd197 rfl) g rfl ?_
          obtain ⟨g, h⟩ := h
          refine r_callVV (d' := d - 1) (by omega) (kd197 rfl) (by decide) rfl rfl rfl rfl (Nat.le_of_ble_eq_true rfl) rfl L196 (Nat.le_of_ble_eq_true rfl) (Nat.le_of_ble_eq_true rfl) g (Nat.zero_le _) (Nat.zero_le _) rfl rfl rfl (b_Mod_reach (by omega) h) (fun M1 h => ?_)
          exact (b_Mod_reachFields_60 hd hk2 h).less (e_sc (List.mem_of_getElem? (i := 0) rfl) (e_sc (List.mem_of_getElem? (i := 1) rfl) (e_sc (List.mem_of_getElem? (i := 2) rfl) e_sn)))
def w_Mod_reachFields (l0 : Nat) (l1 : Int32) (M : eM) (Q : eM → Prop) : Prop := ∃ n1 : Nat, w_Mod_reachFields_2 n1 l0 l1 0 M Q
theorem b_Mod_reachFields {d : Nat} {l0 : Nat} {l1 : Int32} {M : eM} {Q : eM → Prop} (hd : 2 ≤ d) (h : w_Mod_reachFields l0 l1 M Q) : e_CV 197 d 0 0 [.ref l0, .int l1] M Q := by
  unfold w_Mod_reachFields at h
  show e_E 197 d 0 0 0 [(0, .ref l0), (1, .int l1)] [] M (e_QV Q)
  refine r_iconst (kd197 rfl) (y := 0) (by decide) rfl ?_
  refine r_istore_n (kd197 rfl) L197 (by decide) rfl rfl ?_
  obtain ⟨n, h⟩ := h
  exact (b_Mod_reachFields_2 hd n _ _ _ _ h).less (e_sc (List.mem_of_getElem? (i := 1) rfl) (e_sc (List.mem_of_getElem? (i := 2) rfl) (e_sc (List.mem_of_getElem? (i := 0) rfl) e_sn)))
/-- TierMillModel.isRef(I)Z -/
theorem kd198 {pc : Nat} {q : eI} (h : e_d198.lookup pc = some q) : e_dec 198 pc = some q := h
theorem L198 : (e_m 198).2.2.1 = 1 := rfl
theorem R198 : (e_m 198).2.2.2.1 = (some .boolean) := rfl
def w_Mod_isRef_16 (s0 : Int32) (M : eM) (Q : Int32 → eM → Prop) : Prop := (s0 = 0 ∨ s0 = 1) ∧ Q s0 M
theorem b_Mod_isRef_16 {d : Nat} {s0 : Int32} {M : eM} {Q : Int32 → eM → Prop} (hd : 0 ≤ d) (h : w_Mod_isRef_16 s0 M Q ) : e_E 198 d 0 0 16 [] [.int s0] M (e_QI Q) := by
  unfold w_Mod_isRef_16 at h
  exact r_zreturn (kd198 rfl) R198 h.1 h.2
def w_Mod_isRef_11 (M : eM) (Q : Int32 → eM → Prop) : Prop := w_Mod_isRef_16 1 M Q
theorem b_Mod_isRef_11 {d : Nat} {M : eM} {Q : Int32 → eM → Prop} (hd : 0 ≤ d) (h : w_Mod_isRef_11 M Q ) : e_E 198 d 0 0 11 [] [] M (e_QI Q) := by
  unfold w_Mod_isRef_11 at h
  refine r_iconst (kd198 rfl) (y := 1) (by decide) rfl ?_
  refine r_goto (kd198 rfl) ?_
  exact (b_Mod_isRef_16 hd h).less e_sn
def w_Mod_isRef (l0 : Int32) (M : eM) (Q : Int32 → eM → Prop) : Prop := (l0 = 2 → w_Mod_isRef_11 M Q) ∧ (¬ l0 = 2 → (l0 < 15 → w_Mod_isRef_16 0 M Q) ∧ (¬ l0 < 15 → w_Mod_isRef_11 M Q))
theorem b_Mod_isRef {d : Nat} {l0 : Int32} {M : eM} {Q : Int32 → eM → Prop} (hd : 0 ≤ d) (h : w_Mod_isRef l0 M Q) : e_CI 198 d 0 0 [.int l0] M Q := by
  unfold w_Mod_isRef at h
  show e_E 198 d 0 0 0 [(0, .int l0)] [] M (e_QI Q)
  refine r_iload_n (kd198 rfl) rfl rfl ?_
  refine r_iconst (kd198 rfl) (y := 2) (by decide) rfl ?_
  refine r_icmp_eq (kd198 rfl) rfl (fun c => ?_) (fun c => ?_)
  · have h := h.1 c
    exact (b_Mod_isRef_11 hd h).less e_sn
  · have h := h.2 c
    refine r_iload_n (kd198 rfl) rfl rfl ?_
    refine r_bipush (kd198 rfl) (y := 15) (by decide) rfl ?_
    refine r_icmp_lt (kd198 rfl) rfl (fun c => ?_) (fun c => ?_)
    · have h := h.1 c
      refine r_iconst (kd198 rfl) (y := 0) (by decide) rfl ?_
      exact (b_Mod_isRef_16 hd h).less e_sn
    · have h := h.2 c
      exact (b_Mod_isRef_11 hd h).less e_sn
/-- TierMillModel.rowOf(I)I -/
theorem kd199 {pc : Nat} {q : eI} (h : e_d199.lookup pc = some q) : e_dec 199 pc = some q := h
theorem L199 : (e_m 199).2.2.1 = 2 := rfl
theorem R199 : (e_m 199).2.2.2.1 = (some .int) := rfl
def w_Mod_rowOf_34 (s0 : Int32) (s1 : Int32) (M : eM) (Q : Int32 → eM → Prop) : Prop := Q (s1 + s0) M
theorem b_Mod_rowOf_34 {d : Nat} {s0 : Int32} {s1 : Int32} {M : eM} {Q : Int32 → eM → Prop} (hd : 0 ≤ d) (h : w_Mod_rowOf_34 s0 s1 M Q ) : e_E 199 d 0 0 34 [] [.int s0, .int s1] M (e_QI Q) := by
  unfold w_Mod_rowOf_34 at h
  refine r_iadd (kd199 rfl) rfl ?_
  exact r_ireturn (kd199 rfl) R199 h
def w_Mod_rowOf (l0 : Nat) (l1 : Int32) (M : eM) (Q : Int32 → eM → Prop) : Prop := e_ob M l0 12 ∧ e_ai M (gr M l0 61) l1 ∧ e_ob M l0 12 ∧ (¬ l1 = ((gi M l0 60) - 1) → e_ob M l0 12 ∧ e_ai M (gr M l0 63) l1 ∧ w_Mod_rowOf_34 (gi M (gr M l0 63) l1.toNatClampNeg) (120 * (gi M (gr M l0 61) l1.toNatClampNeg)) M Q) ∧ (l1 = ((gi M l0 60) - 1) → e_ob M l0 12 ∧ e_ai M (gr M l0 62) l1 ∧ w_Mod_rowOf_34 (gi M (gr M l0 62) l1.toNatClampNeg) (120 * (gi M (gr M l0 61) l1.toNatClampNeg)) M Q)
theorem b_Mod_rowOf {d : Nat} {l0 : Nat} {l1 : Int32} {M : eM} {Q : Int32 → eM → Prop} (hd : 0 ≤ d) (h : w_Mod_rowOf l0 l1 M Q) : e_CI 199 d 0 0 [.ref l0, .int l1] M Q := by
  unfold w_Mod_rowOf at h
  show e_E 199 d 0 0 0 [(0, .ref l0), (1, .int l1)] [] M (e_QI Q)
  refine r_bipush (kd199 rfl) (y := 120) (by decide) rfl ?_
  refine r_aload_n (kd199 rfl) rfl rfl ?_
  obtain ⟨g, h⟩ := h
  refine r_get2 (kd199 rfl) (by decide) rfl g rfl ?_
  refine r_iload_n (kd199 rfl) rfl rfl ?_
  obtain ⟨g, h⟩ := h
  refine r_iaload (kd199 rfl) g rfl ?_
  refine r_imul (kd199 rfl) rfl ?_
  refine r_iload_n (kd199 rfl) rfl rfl ?_
  refine r_aload_n (kd199 rfl) rfl rfl ?_
  obtain ⟨g, h⟩ := h
  refine r_get0 (kd199 rfl) (by decide) rfl g rfl ?_
  refine r_iconst (kd199 rfl) (y := 1) (by decide) rfl ?_
  refine r_isub (kd199 rfl) rfl ?_
  refine r_icmp_ne (kd199 rfl) rfl (fun c => ?_) (fun c => ?_)
  · have h := h.1 c
    refine r_aload_n (kd199 rfl) rfl rfl ?_
    obtain ⟨g, h⟩ := h
    refine r_get2 (kd199 rfl) (by decide) rfl g rfl ?_
    refine r_iload_n (kd199 rfl) rfl rfl ?_
    obtain ⟨g, h⟩ := h
    refine r_iaload (kd199 rfl) g rfl ?_
    exact (b_Mod_rowOf_34 hd h).less e_sn
  · have h := h.2 c
    refine r_aload_n (kd199 rfl) rfl rfl ?_
    obtain ⟨g, h⟩ := h
    refine r_get2 (kd199 rfl) (by decide) rfl g rfl ?_
    refine r_iload_n (kd199 rfl) rfl rfl ?_
    obtain ⟨g, h⟩ := h
    refine r_iaload (kd199 rfl) g rfl ?_
    refine r_goto (kd199 rfl) ?_
    exact (b_Mod_rowOf_34 hd h).less e_sn
/-- TierMillModel.collect()V -/
theorem kd200 {pc : Nat} {q : eI} (h : e_d200.lookup pc = some q) : e_dec 200 pc = some q := h
theorem L200 : (e_m 200).2.2.1 = 6 := rfl
theorem R200 : (e_m 200).2.2.2.1 = none := rfl
set_option maxRecDepth 100000 in
def w_Mod_collect_102 (l0 : Nat) (l1 : Int32) (l2 : Int32) (l3 : Int32) (l4 : Int32) (M : eM) (Q : eM → Prop) (k35 : Nat → Int32 → Int32 → eM → Prop) (k55 : Nat → Int32 → Int32 → Int32 → Int32 → eM → Prop) : Prop := k55 l0 l1 l2 l3 (l4 + 1) M
set_option maxRecDepth 100000 in
theorem b_Mod_collect_102 {d : Nat} {l0 : Nat} {l1 : Int32} {l2 : Int32} {l3 : Int32} {l4 : Int32} {M : eM} {Q : eM → Prop} {k35 : Nat → Int32 → Int32 → eM → Prop} {k55 : Nat → Int32 → Int32 → Int32 → Int32 → eM → Prop} (hd : 3 ≤ d) (hk35 : ∀ (l0 : Nat) (l1 : Int32) (l2 : Int32) (M : eM), k35 l0 l1 l2 M → e_E 200 d 0 0 35 [(0, .ref l0), (1, .int l1), (2, .int l2)] [] M (e_QV Q)) (hk55 : ∀ (l0 : Nat) (l1 : Int32) (l2 : Int32) (l3 : Int32) (l4 : Int32) (M : eM), k55 l0 l1 l2 l3 l4 M → e_E 200 d 0 0 55 [(0, .ref l0), (1, .int l1), (2, .int l2), (3, .int l3), (4, .int l4)] [] M (e_QV Q)) (h : w_Mod_collect_102 l0 l1 l2 l3 l4 M Q k35 k55) : e_E 200 d 0 0 102 [(0, .ref l0), (1, .int l1), (2, .int l2), (3, .int l3), (4, .int l4)] [] M (e_QV Q) := by
  unfold w_Mod_collect_102 at h
  refine r_iinc (kd200 rfl) rfl (y := 1) (by decide) L200 (by decide) rfl rfl ?_
  refine r_goto (kd200 rfl) ?_
  exact (hk55 _ _ _ _ _ _ h).less (e_sc (List.mem_of_getElem? (i := 1) rfl) (e_sc (List.mem_of_getElem? (i := 2) rfl) (e_sc (List.mem_of_getElem? (i := 3) rfl) (e_sc (List.mem_of_getElem? (i := 4) rfl) (e_sc (List.mem_of_getElem? (i := 0) rfl) e_sn)))))
set_option maxRecDepth 100000 in
def w_Mod_collect_156 (l0 : Nat) (l1 : Int32) (l2 : Int32) (l3 : Int32) (l4 : Int32) (M : eM) (Q : eM → Prop) (k35 : Nat → Int32 → Int32 → eM → Prop) (k111 : Nat → Int32 → Int32 → Int32 → Int32 → eM → Prop) : Prop := k111 l0 l1 l2 l3 (l4 + 1) M
set_option maxRecDepth 100000 in
theorem b_Mod_collect_156 {d : Nat} {l0 : Nat} {l1 : Int32} {l2 : Int32} {l3 : Int32} {l4 : Int32} {M : eM} {Q : eM → Prop} {k35 : Nat → Int32 → Int32 → eM → Prop} {k111 : Nat → Int32 → Int32 → Int32 → Int32 → eM → Prop} (hd : 3 ≤ d) (hk35 : ∀ (l0 : Nat) (l1 : Int32) (l2 : Int32) (M : eM), k35 l0 l1 l2 M → e_E 200 d 0 0 35 [(0, .ref l0), (1, .int l1), (2, .int l2)] [] M (e_QV Q)) (hk111 : ∀ (l0 : Nat) (l1 : Int32) (l2 : Int32) (l3 : Int32) (l4 : Int32) (M : eM), k111 l0 l1 l2 l3 l4 M → e_E 200 d 0 0 111 [(0, .ref l0), (1, .int l1), (2, .int l2), (3, .int l3), (4, .int l4)] [] M (e_QV Q)) (h : w_Mod_collect_156 l0 l1 l2 l3 l4 M Q k35 k111) : e_E 200 d 0 0 156 [(0, .ref l0), (1, .int l1), (2, .int l2), (3, .int l3), (4, .int l4)] [] M (e_QV Q) := by
  unfold w_Mod_collect_156 at h
  refine r_iinc (kd200 rfl) rfl (y := 1) (by decide) L200 (by decide) rfl rfl ?_
  refine r_goto (kd200 rfl) ?_
  exact (hk111 _ _ _ _ _ _ h).less (e_sc (List.mem_of_getElem? (i := 1) rfl) (e_sc (List.mem_of_getElem? (i := 2) rfl) (e_sc (List.mem_of_getElem? (i := 3) rfl) (e_sc (List.mem_of_getElem? (i := 4) rfl) (e_sc (List.mem_of_getElem? (i := 0) rfl) e_sn)))))
set_option maxRecDepth 100000 in
def w_Mod_collect_111 : Nat → Nat → Int32 → Int32 → Int32 → Int32 → eM → (eM → Prop) → (Nat → Int32 → Int32 → eM → Prop) → Prop
  | 0, _, _, _, _, _, _, _, _ => False
  | n + 1, l0, l1, l2, l3, l4, M, Q, k35 => e_ob M l0 12 ∧ e_ai M (gr M l0 67) l2 ∧ ((gi M (gr M l0 67) l2.toNatClampNeg) ≤ l4 → k35 l0 l1 (l2 + 1) M) ∧ (¬ (gi M (gr M l0 67) l2.toNatClampNeg) ≤ l4 → e_ob M l0 12 ∧ e_ai M (gr M l0 30) ((l3 + 8) + l4) ∧ w_Mod_isRef (gi M (gr M l0 30) ((l3 + 8) + l4).toNatClampNeg) M (fun (v14 : Int32) (M13 : eM) => (v14 = 0 → w_Mod_collect_156 l0 l1 l2 l3 l4 M13 Q k35 (fun l0 l1 l2 l3 l4 M => w_Mod_collect_111 n l0 l1 l2 l3 l4 M Q k35)) ∧ (¬ v14 = 0 → e_ob M13 l0 12 ∧ e_ai M13 (gr M13 l0 69) ((8 * l2) + l4) ∧ e_ob M13 l0 12 ∧ w_Mod_reach l0 (gi M13 (gr M13 l0 69) ((8 * l2) + l4).toNatClampNeg) M13 (fun (M15 : eM) => w_Mod_collect_156 l0 l1 l2 l3 l4 M15 Q k35 (fun l0 l1 l2 l3 l4 M => w_Mod_collect_111 n l0 l1 l2 l3 l4 M Q k35)))))
set_option maxRecDepth 100000 in
theorem b_Mod_collect_111 {d : Nat} {Q : eM → Prop} {k35 : Nat → Int32 → Int32 → eM → Prop} (hd : 3 ≤ d) (n : Nat) (hk35 : ∀ (l0 : Nat) (l1 : Int32) (l2 : Int32) (M : eM), k35 l0 l1 l2 M → e_E 200 d 0 0 35 [(0, .ref l0), (1, .int l1), (2, .int l2)] [] M (e_QV Q)) : ∀ (l0 : Nat) (l1 : Int32) (l2 : Int32) (l3 : Int32) (l4 : Int32) (M : eM), w_Mod_collect_111 n l0 l1 l2 l3 l4 M Q k35 → e_E 200 d 0 0 111 [(0, .ref l0), (1, .int l1), (2, .int l2), (3, .int l3), (4, .int l4)] [] M (e_QV Q) := by
  induction n with
  | zero => intro l0 l1 l2 l3 l4 M h; exact False.elim h
  | succ n ih =>
    intro l0 l1 l2 l3 l4 M h
    have hk111 := ih
    refine r_iload (kd200 rfl) rfl rfl ?_
    refine r_aload_n (kd200 rfl) rfl rfl ?_
    obtain ⟨g, h⟩ := h
    refine r_get2 (kd200 rfl) (by decide) rfl g rfl ?_
    refine r_iload_n (kd200 rfl) rfl rfl ?_
    obtain ⟨g, h⟩ := h
    refine r_iaload (kd200 rfl) g rfl ?_
    refine r_icmp_ge (kd200 rfl) rfl (fun c => ?_) (fun c => ?_)
    · have h := h.1 c
      refine r_iinc (kd200 rfl) rfl (y := 1) (by decide) L200 (by decide) rfl rfl ?_
      refine r_goto (kd200 rfl) ?_
      exact (hk35 _ _ _ _ h).less (e_sc (List.mem_of_getElem? (i := 1) rfl) (e_sc (List.mem_of_getElem? (i := 2) rfl) (e_sc (List.mem_of_getElem? (i := 0) rfl) e_sn)))
    · have h := h.2 c
      refine r_aload_n (kd200 rfl) rfl rfl ?_
      obtain ⟨g, h⟩ := h
      refine r_get2 (kd200 rfl) (by decide) rfl g rfl ?_
      refine r_iload_n (kd200 rfl) rfl rfl ?_
      refine r_bipush (kd200 rfl) (y := 8) (by decide) rfl ?_
      refine r_iadd (kd200 rfl) rfl ?_
      refine r_iload (kd200 rfl) rfl rfl ?_
      refine r_iadd (kd200 rfl) rfl ?_
      obtain ⟨g, h⟩ := h
      refine r_iaload (kd200 rfl) g rfl ?_
      refine r_callSI (d' := d - 1) (by omega) (kd200 rfl) (by decide) rfl rfl rfl rfl (Nat.le_of_ble_eq_true rfl) rfl L198 (Nat.le_of_ble_eq_true rfl) (Nat.le_of_ble_eq_true rfl) (Nat.zero_le _) (Nat.zero_le _) rfl rfl rfl (b_Mod_isRef (by omega) h) (fun x1 M1 h => ?_)
      refine r_if_eq (kd200 rfl) rfl (fun c => ?_) (fun c => ?_)
      · have h := h.1 c
        exact (b_Mod_collect_156 hd hk35 hk111 h).less (e_sc (List.mem_of_getElem? (i := 0) rfl) (e_sc (List.mem_of_getElem? (i := 1) rfl) (e_sc (List.mem_of_getElem? (i := 2) rfl) (e_sc (List.mem_of_getElem? (i := 3) rfl) (e_sc (List.mem_of_getElem? (i := 4) rfl) e_sn)))))
      · have h := h.2 c
        refine r_aload_n (kd200 rfl) rfl rfl ?_
        refine r_aload_n (kd200 rfl) rfl rfl ?_
        obtain ⟨g, h⟩ := h
        refine r_get2 (kd200 rfl) (by decide) rfl g rfl ?_
        refine r_bipush (kd200 rfl) (y := 8) (by decide) rfl ?_
        refine r_iload_n (kd200 rfl) rfl rfl ?_
        refine r_imul (kd200 rfl) rfl ?_
        refine r_iload (kd200 rfl) rfl rfl ?_
        refine r_iadd (kd200 rfl) rfl ?_
        obtain ⟨g, h⟩ := h
        refine r_iaload (kd200 rfl) g rfl ?_
        obtain ⟨g, h⟩ := h
        refine r_callVV (d' := d - 1) (by omega) (kd200 rfl) (by decide) rfl rfl rfl rfl (Nat.le_of_ble_eq_true rfl) rfl L196 (Nat.le_of_ble_eq_true rfl) (Nat.le_of_ble_eq_true rfl) g (Nat.zero_le _) (Nat.zero_le _) rfl rfl rfl (b_Mod_reach (by omega) h) (fun M1 h => ?_)
        exact (b_Mod_collect_156 hd hk35 hk111 h).less (e_sc (List.mem_of_getElem? (i := 0) rfl) (e_sc (List.mem_of_getElem? (i := 1) rfl) (e_sc (List.mem_of_getElem? (i := 2) rfl) (e_sc (List.mem_of_getElem? (i := 3) rfl) (e_sc (List.mem_of_getElem? (i := 4) rfl) e_sn)))))
set_option maxRecDepth 100000 in
def w_Mod_collect_55 : Nat → Nat → Int32 → Int32 → Int32 → Int32 → eM → (eM → Prop) → (Nat → Int32 → Int32 → eM → Prop) → Prop
  | 0, _, _, _, _, _, _, _, _ => False
  | n + 1, l0, l1, l2, l3, l4, M, Q, k35 => e_ob M l0 12 ∧ e_ob M l0 12 ∧ e_ai M (gr M l0 61) l2 ∧ e_ai M (gr M l0 23) (gi M (gr M l0 61) l2.toNatClampNeg) ∧ ((gi M (gr M l0 23) (gi M (gr M l0 61) l2.toNatClampNeg).toNatClampNeg) ≤ l4 → ∃ n9 : Nat, w_Mod_collect_111 n9 l0 l1 l2 l3 0 M Q k35) ∧ (¬ (gi M (gr M l0 23) (gi M (gr M l0 61) l2.toNatClampNeg).toNatClampNeg) ≤ l4 → e_ob M l0 12 ∧ e_ai M (gr M l0 30) (l3 + l4) ∧ w_Mod_isRef (gi M (gr M l0 30) (l3 + l4).toNatClampNeg) M (fun (v11 : Int32) (M10 : eM) => (v11 = 0 → w_Mod_collect_102 l0 l1 l2 l3 l4 M10 Q k35 (fun l0 l1 l2 l3 l4 M => w_Mod_collect_55 n l0 l1 l2 l3 l4 M Q k35)) ∧ (¬ v11 = 0 → e_ob M10 l0 12 ∧ e_ai M10 (gr M10 l0 68) ((8 * l2) + l4) ∧ e_ob M10 l0 12 ∧ w_Mod_reach l0 (gi M10 (gr M10 l0 68) ((8 * l2) + l4).toNatClampNeg) M10 (fun (M12 : eM) => w_Mod_collect_102 l0 l1 l2 l3 l4 M12 Q k35 (fun l0 l1 l2 l3 l4 M => w_Mod_collect_55 n l0 l1 l2 l3 l4 M Q k35)))))
set_option maxRecDepth 100000 in
theorem b_Mod_collect_55 {d : Nat} {Q : eM → Prop} {k35 : Nat → Int32 → Int32 → eM → Prop} (hd : 3 ≤ d) (n : Nat) (hk35 : ∀ (l0 : Nat) (l1 : Int32) (l2 : Int32) (M : eM), k35 l0 l1 l2 M → e_E 200 d 0 0 35 [(0, .ref l0), (1, .int l1), (2, .int l2)] [] M (e_QV Q)) : ∀ (l0 : Nat) (l1 : Int32) (l2 : Int32) (l3 : Int32) (l4 : Int32) (M : eM), w_Mod_collect_55 n l0 l1 l2 l3 l4 M Q k35 → e_E 200 d 0 0 55 [(0, .ref l0), (1, .int l1), (2, .int l2), (3, .int l3), (4, .int l4)] [] M (e_QV Q) := by
  induction n with
  | zero => intro l0 l1 l2 l3 l4 M h; exact False.elim h
  | succ n ih =>
    intro l0 l1 l2 l3 l4 M h
    have hk55 := ih
    refine r_iload (kd200 rfl) rfl rfl ?_
    refine r_aload_n (kd200 rfl) rfl rfl ?_
    obtain ⟨g, h⟩ := h
    refine r_get2 (kd200 rfl) (by decide) rfl g rfl ?_
    refine r_aload_n (kd200 rfl) rfl rfl ?_
    obtain ⟨g, h⟩ := h
    refine r_get2 (kd200 rfl) (by decide) rfl g rfl ?_
    refine r_iload_n (kd200 rfl) rfl rfl ?_
    obtain ⟨g, h⟩ := h
    refine r_iaload (kd200 rfl) g rfl ?_
    obtain ⟨g, h⟩ := h
    refine r_iaload (kd200 rfl) g rfl ?_
    refine r_icmp_ge (kd200 rfl) rfl (fun c => ?_) (fun c => ?_)
    · have h := h.1 c
      refine r_iconst (kd200 rfl) (y := 0) (by decide) rfl ?_
      refine r_istore (kd200 rfl) L200 (by decide) rfl rfl ?_
      obtain ⟨n, h⟩ := h
      exact (b_Mod_collect_111 hd n hk35 _ _ _ _ _ _ h).less (e_sc (List.mem_of_getElem? (i := 1) rfl) (e_sc (List.mem_of_getElem? (i := 2) rfl) (e_sc (List.mem_of_getElem? (i := 3) rfl) (e_sc (List.mem_of_getElem? (i := 4) rfl) (e_sc (List.mem_of_getElem? (i := 0) rfl) e_sn)))))
    · have h := h.2 c
      refine r_aload_n (kd200 rfl) rfl rfl ?_
      obtain ⟨g, h⟩ := h
      refine r_get2 (kd200 rfl) (by decide) rfl g rfl ?_
      refine r_iload_n (kd200 rfl) rfl rfl ?_
      refine r_iload (kd200 rfl) rfl rfl ?_
      refine r_iadd (kd200 rfl) rfl ?_
      obtain ⟨g, h⟩ := h
      refine r_iaload (kd200 rfl) g rfl ?_
      refine r_callSI (d' := d - 1) (by omega) (kd200 rfl) (by decide) rfl rfl rfl rfl (Nat.le_of_ble_eq_true rfl) rfl L198 (Nat.le_of_ble_eq_true rfl) (Nat.le_of_ble_eq_true rfl) (Nat.zero_le _) (Nat.zero_le _) rfl rfl rfl (b_Mod_isRef (by omega) h) (fun x1 M1 h => ?_)
      refine r_if_eq (kd200 rfl) rfl (fun c => ?_) (fun c => ?_)
      · have h := h.1 c
        exact (b_Mod_collect_102 hd hk35 hk55 h).less (e_sc (List.mem_of_getElem? (i := 0) rfl) (e_sc (List.mem_of_getElem? (i := 1) rfl) (e_sc (List.mem_of_getElem? (i := 2) rfl) (e_sc (List.mem_of_getElem? (i := 3) rfl) (e_sc (List.mem_of_getElem? (i := 4) rfl) e_sn)))))
      · have h := h.2 c
        refine r_aload_n (kd200 rfl) rfl rfl ?_
        refine r_aload_n (kd200 rfl) rfl rfl ?_
        obtain ⟨g, h⟩ := h
        refine r_get2 (kd200 rfl) (by decide) rfl g rfl ?_
        refine r_bipush (kd200 rfl) (y := 8) (by decide) rfl ?_
        refine r_iload_n (kd200 rfl) rfl rfl ?_
        refine r_imul (kd200 rfl) rfl ?_
        refine r_iload (kd200 rfl) rfl rfl ?_
        refine r_iadd (kd200 rfl) rfl ?_
        obtain ⟨g, h⟩ := h
        refine r_iaload (kd200 rfl) g rfl ?_
        obtain ⟨g, h⟩ := h
        refine r_callVV (d' := d - 1) (by omega) (kd200 rfl) (by decide) rfl rfl rfl rfl (Nat.le_of_ble_eq_true rfl) rfl L196 (Nat.le_of_ble_eq_true rfl) (Nat.le_of_ble_eq_true rfl) g (Nat.zero_le _) (Nat.zero_le _) rfl rfl rfl (b_Mod_reach (by omega) h) (fun M1 h => ?_)
        exact (b_Mod_collect_102 hd hk35 hk55 h).less (e_sc (List.mem_of_getElem? (i := 0) rfl) (e_sc (List.mem_of_getElem? (i := 1) rfl) (e_sc (List.mem_of_getElem? (i := 2) rfl) (e_sc (List.mem_of_getElem? (i := 3) rfl) (e_sc (List.mem_of_getElem? (i := 4) rfl) e_sn)))))
set_option maxRecDepth 100000 in
def w_Mod_collect_350 (l0 : Nat) (l1 : Int32) (l2 : Int32) (l3 : Int32) (l4 : Int32) (M : eM) (Q : eM → Prop) (k206 : Nat → Int32 → Int32 → Int32 → Int32 → eM → Prop) : Prop := k206 l0 l1 l2 l3 (l4 + 1) M
set_option maxRecDepth 100000 in
theorem b_Mod_collect_350 {d : Nat} {l0 : Nat} {l1 : Int32} {l2 : Int32} {l3 : Int32} {l4 : Int32} {M : eM} {Q : eM → Prop} {k206 : Nat → Int32 → Int32 → Int32 → Int32 → eM → Prop} (hd : 3 ≤ d) (hk206 : ∀ (l0 : Nat) (l1 : Int32) (l2 : Int32) (l3 : Int32) (l4 : Int32) (M : eM), k206 l0 l1 l2 l3 l4 M → e_E 200 d 0 0 206 [(0, .ref l0), (1, .int l1), (2, .int l2), (3, .int l3), (4, .int l4)] [] M (e_QV Q)) (h : w_Mod_collect_350 l0 l1 l2 l3 l4 M Q k206) : e_E 200 d 0 0 350 [(0, .ref l0), (1, .int l1), (2, .int l2), (3, .int l3), (4, .int l4)] [] M (e_QV Q) := by
  unfold w_Mod_collect_350 at h
  refine r_iinc (kd200 rfl) rfl (y := 1) (by decide) L200 (by decide) rfl rfl ?_
  refine r_goto (kd200 rfl) ?_
  exact (hk206 _ _ _ _ _ _ h).less (e_sc (List.mem_of_getElem? (i := 1) rfl) (e_sc (List.mem_of_getElem? (i := 2) rfl) (e_sc (List.mem_of_getElem? (i := 3) rfl) (e_sc (List.mem_of_getElem? (i := 4) rfl) (e_sc (List.mem_of_getElem? (i := 0) rfl) e_sn)))))
set_option maxRecDepth 100000 in
def w_Mod_collect_231 : Nat → Nat → Int32 → Int32 → Int32 → Int32 → Int32 → eM → (eM → Prop) → (Nat → Int32 → Int32 → Int32 → Int32 → eM → Prop) → Prop
  | 0, _, _, _, _, _, _, _, _, _ => False
  | n + 1, l0, l1, l2, l3, l4, l5, M, Q, k206 => e_ob M l0 12 ∧ e_ai M (gr M l0 77) l4 ∧ ((gi M (gr M l0 77) l4.toNatClampNeg) ≤ l5 → e_ob M l0 12 ∧ e_ob M l0 12 ∧ e_ai M (gr M l0 74) l4 ∧ e_ar M (gr M l0 74) 20 l2 ∧ ∀ M23 : eM, M23 = e_si M (gr M l0 74) l2.toNatClampNeg (gi M (gr M l0 74) l4.toNatClampNeg) → e_ob M23 l0 12 ∧ e_ob M23 l0 12 ∧ e_ai M23 (gr M23 l0 75) l4 ∧ e_ar M23 (gr M23 l0 75) 20 l2 ∧ ∀ M24 : eM, M24 = e_si M23 (gr M23 l0 75) l2.toNatClampNeg (gi M23 (gr M23 l0 75) l4.toNatClampNeg) → e_ob M24 l0 12 ∧ e_ob M24 l0 12 ∧ e_ai M24 (gr M24 l0 77) l4 ∧ e_ar M24 (gr M24 l0 77) 20 l2 ∧ ∀ M25 : eM, M25 = e_si M24 (gr M24 l0 77) l2.toNatClampNeg (gi M24 (gr M24 l0 77) l4.toNatClampNeg) → e_ob M25 l0 12 ∧ e_ar M25 (gr M25 l0 76) 20 l2 ∧ ∀ M26 : eM, M26 = e_si M25 (gr M25 l0 76) l2.toNatClampNeg l3 → e_ob M26 l0 12 ∧ e_ai M26 (gr M26 l0 77) l4 ∧ e_ob M26 l0 12 ∧ e_ob M26 l0 12 ∧ e_ai M26 (gr M26 l0 77) l4 ∧ e_ob M26 l0 12 ∧ ∀ M27 : eM, M27 = e_si M26 l0 71 ((gi M26 l0 71) + (2 + (gi M26 (gr M26 l0 77) l4.toNatClampNeg))) → w_Mod_collect_350 l0 l1 (l2 + 1) (l3 + (gi M26 (gr M26 l0 77) l4.toNatClampNeg)) l4 M27 Q k206) ∧ (¬ (gi M (gr M l0 77) l4.toNatClampNeg) ≤ l5 → e_ob M l0 12 ∧ e_ob M l0 12 ∧ e_ob M l0 12 ∧ e_ai M (gr M l0 76) l4 ∧ e_ai M (gr M l0 80) ((gi M (gr M l0 76) l4.toNatClampNeg) + l5) ∧ e_ar M (gr M l0 80) 20 (l3 + l5) ∧ ∀ M28 : eM, M28 = e_si M (gr M l0 80) (l3 + l5).toNatClampNeg (gi M (gr M l0 80) ((gi M (gr M l0 76) l4.toNatClampNeg) + l5).toNatClampNeg) → (fun l0 l1 l2 l3 l4 l5 M => w_Mod_collect_231 n l0 l1 l2 l3 l4 l5 M Q k206) l0 l1 l2 l3 l4 (l5 + 1) M28)
set_option maxRecDepth 100000 in
theorem b_Mod_collect_231 {d : Nat} {Q : eM → Prop} {k206 : Nat → Int32 → Int32 → Int32 → Int32 → eM → Prop} (hd : 3 ≤ d) (n : Nat) (hk206 : ∀ (l0 : Nat) (l1 : Int32) (l2 : Int32) (l3 : Int32) (l4 : Int32) (M : eM), k206 l0 l1 l2 l3 l4 M → e_E 200 d 0 0 206 [(0, .ref l0), (1, .int l1), (2, .int l2), (3, .int l3), (4, .int l4)] [] M (e_QV Q)) : ∀ (l0 : Nat) (l1 : Int32) (l2 : Int32) (l3 : Int32) (l4 : Int32) (l5 : Int32) (M : eM), w_Mod_collect_231 n l0 l1 l2 l3 l4 l5 M Q k206 → e_E 200 d 0 0 231 [(0, .ref l0), (1, .int l1), (2, .int l2), (3, .int l3), (4, .int l4), (5, .int l5)] [] M (e_QV Q) := by
  induction n with
  | zero => intro l0 l1 l2 l3 l4 l5 M h; exact False.elim h
  | succ n ih =>
    intro l0 l1 l2 l3 l4 l5 M h
    have hk231 := ih
    refine r_iload (kd200 rfl) rfl rfl ?_
    refine r_aload_n (kd200 rfl) rfl rfl ?_
    obtain ⟨g, h⟩ := h
    refine r_get2 (kd200 rfl) (by decide) rfl g rfl ?_
    refine r_iload (kd200 rfl) rfl rfl ?_
    obtain ⟨g, h⟩ := h
    refine r_iaload (kd200 rfl) g rfl ?_
    refine r_icmp_ge (kd200 rfl) rfl (fun c => ?_) (fun c => ?_)
    · have h := h.1 c
      refine r_aload_n (kd200 rfl) rfl rfl ?_
      obtain ⟨g, h⟩ := h
      refine r_get2 (kd200 rfl) (by decide) rfl g rfl ?_
      refine r_iload_n (kd200 rfl) rfl rfl ?_
      refine r_aload_n (kd200 rfl) rfl rfl ?_
      obtain ⟨g, h⟩ := h
      refine r_get2 (kd200 rfl) (by decide) rfl g rfl ?_
      refine r_iload (kd200 rfl) rfl rfl ?_
      obtain ⟨g, h⟩ := h
      refine r_iaload (kd200 rfl) g rfl ?_
      obtain ⟨g, h⟩ := h
      have h := h _ rfl
      refine r_iastore (kd200 rfl) g rfl ?_
      refine r_aload_n (kd200 rfl) rfl rfl ?_
      obtain ⟨g, h⟩ := h
      refine r_get2 (kd200 rfl) (by decide) rfl g rfl ?_
      refine r_iload_n (kd200 rfl) rfl rfl ?_
      refine r_aload_n (kd200 rfl) rfl rfl ?_
      obtain ⟨g, h⟩ := h
      refine r_get2 (kd200 rfl) (by decide) rfl g rfl ?_
      refine r_iload (kd200 rfl) rfl rfl ?_
      obtain ⟨g, h⟩ := h
      refine r_iaload (kd200 rfl) g rfl ?_
      obtain ⟨g, h⟩ := h
      have h := h _ rfl
      refine r_iastore (kd200 rfl) g rfl ?_
      refine r_aload_n (kd200 rfl) rfl rfl ?_
      obtain ⟨g, h⟩ := h
      refine r_get2 (kd200 rfl) (by decide) rfl g rfl ?_
      refine r_iload_n (kd200 rfl) rfl rfl ?_
      refine r_aload_n (kd200 rfl) rfl rfl ?_
      obtain ⟨g, h⟩ := h
      refine r_get2 (kd200 rfl) (by decide) rfl g rfl ?_
      refine r_iload (kd200 rfl) rfl rfl ?_
      obtain ⟨g, h⟩ := h
      refine r_iaload (kd200 rfl) g rfl ?_
      obtain ⟨g, h⟩ := h
      have h := h _ rfl
      refine r_iastore (kd200 rfl) g rfl ?_
      refine r_aload_n (kd200 rfl) rfl rfl ?_
      obtain ⟨g, h⟩ := h
      refine r_get2 (kd200 rfl) (by decide) rfl g rfl ?_
      refine r_iload_n (kd200 rfl) rfl rfl ?_
      refine r_iload_n (kd200 rfl) rfl rfl ?_
      obtain ⟨g, h⟩ := h
      have h := h _ rfl
      refine r_iastore (kd200 rfl) g rfl ?_
      refine r_iload_n (kd200 rfl) rfl rfl ?_
      refine r_aload_n (kd200 rfl) rfl rfl ?_
      obtain ⟨g, h⟩ := h
      refine r_get2 (kd200 rfl) (by decide) rfl g rfl ?_
      refine r_iload (kd200 rfl) rfl rfl ?_
      obtain ⟨g, h⟩ := h
      refine r_iaload (kd200 rfl) g rfl ?_
      refine r_iadd (kd200 rfl) rfl ?_
      refine r_istore_n (kd200 rfl) L200 (by decide) rfl rfl ?_
      refine r_aload_n (kd200 rfl) rfl rfl ?_
      refine r_dup (kd200 rfl) rfl rfl ?_
      obtain ⟨g, h⟩ := h
      refine r_get0 (kd200 rfl) (by decide) rfl g rfl ?_
      refine r_iconst (kd200 rfl) (y := 2) (by decide) rfl ?_
      refine r_aload_n (kd200 rfl) rfl rfl ?_
      obtain ⟨g, h⟩ := h
      refine r_get2 (kd200 rfl) (by decide) rfl g rfl ?_
      refine r_iload (kd200 rfl) rfl rfl ?_
      obtain ⟨g, h⟩ := h
      refine r_iaload (kd200 rfl) g rfl ?_
      refine r_iadd (kd200 rfl) rfl ?_
      refine r_iadd (kd200 rfl) rfl ?_
      obtain ⟨g, h⟩ := h
      have h := h _ rfl
      refine r_put0 (kd200 rfl) (by decide) rfl g rfl ?_
      refine r_iinc (kd200 rfl) rfl (y := 1) (by decide) L200 (by decide) rfl rfl ?_
      exact (b_Mod_collect_350 hd hk206 h).less (e_sc (List.mem_of_getElem? (i := 2) rfl) (e_sc (List.mem_of_getElem? (i := 3) rfl) (e_sc (List.mem_of_getElem? (i := 0) rfl) (e_sc (List.mem_of_getElem? (i := 1) rfl) (e_sc (List.mem_of_getElem? (i := 4) rfl) e_sn)))))
    · have h := h.2 c
      refine r_aload_n (kd200 rfl) rfl rfl ?_
      obtain ⟨g, h⟩ := h
      refine r_get2 (kd200 rfl) (by decide) rfl g rfl ?_
      refine r_iload_n (kd200 rfl) rfl rfl ?_
      refine r_iload (kd200 rfl) rfl rfl ?_
      refine r_iadd (kd200 rfl) rfl ?_
      refine r_aload_n (kd200 rfl) rfl rfl ?_
      obtain ⟨g, h⟩ := h
      refine r_get2 (kd200 rfl) (by decide) rfl g rfl ?_
      refine r_aload_n (kd200 rfl) rfl rfl ?_
      obtain ⟨g, h⟩ := h
      refine r_get2 (kd200 rfl) (by decide) rfl g rfl ?_
      refine r_iload (kd200 rfl) rfl rfl ?_
      obtain ⟨g, h⟩ := h
      refine r_iaload (kd200 rfl) g rfl ?_
      refine r_iload (kd200 rfl) rfl rfl ?_
      refine r_iadd (kd200 rfl) rfl ?_
      obtain ⟨g, h⟩ := h
      refine r_iaload (kd200 rfl) g rfl ?_
      obtain ⟨g, h⟩ := h
      have h := h _ rfl
      refine r_iastore (kd200 rfl) g rfl ?_
      refine r_iinc (kd200 rfl) rfl (y := 1) (by decide) L200 (by decide) rfl rfl ?_
      refine r_goto (kd200 rfl) ?_
      exact (hk231 _ _ _ _ _ _ _ h).less (e_sc (List.mem_of_getElem? (i := 1) rfl) (e_sc (List.mem_of_getElem? (i := 2) rfl) (e_sc (List.mem_of_getElem? (i := 3) rfl) (e_sc (List.mem_of_getElem? (i := 4) rfl) (e_sc (List.mem_of_getElem? (i := 5) rfl) (e_sc (List.mem_of_getElem? (i := 0) rfl) e_sn))))))
set_option maxRecDepth 100000 in
def w_Mod_collect_206 : Nat → Nat → Int32 → Int32 → Int32 → Int32 → eM → (eM → Prop) → Prop
  | 0, _, _, _, _, _, _, _ => False
  | n + 1, l0, l1, l2, l3, l4, M, Q => e_ob M l0 12 ∧ ((gi M l0 73) ≤ l4 → e_ob M l0 12 ∧ ∀ M19 : eM, M19 = e_si M l0 73 l2 → e_ob M19 l0 12 ∧ ∀ M20 : eM, M20 = e_si M19 l0 79 l3 → e_ob M20 l0 12 ∧ e_ob M20 l0 12 ∧ e_ai M20 (gr M20 l0 61) ((gi M20 l0 60) - 1) ∧ e_ob M20 l0 12 ∧ e_ob M20 l0 12 ∧ w_Mod_note l0 3 (gi M20 (gr M20 l0 61) ((gi M20 l0 60) - 1).toNatClampNeg) l1 (gi M20 l0 71) M20 (fun (M21 : eM) => Q M21)) ∧ (¬ (gi M l0 73) ≤ l4 → e_ob M l0 12 ∧ e_ar M (gr M l0 78) 22 l4 ∧ (¬ (gi M (gr M l0 78) l4.toNatClampNeg) = 0 → ∃ n22 : Nat, w_Mod_collect_231 n22 l0 l1 l2 l3 l4 0 M Q (fun l0 l1 l2 l3 l4 M => w_Mod_collect_206 n l0 l1 l2 l3 l4 M Q )) ∧ ((gi M (gr M l0 78) l4.toNatClampNeg) = 0 → w_Mod_collect_350 l0 l1 l2 l3 l4 M Q (fun l0 l1 l2 l3 l4 M => w_Mod_collect_206 n l0 l1 l2 l3 l4 M Q )))
set_option maxRecDepth 100000 in
theorem b_Mod_collect_206 {d : Nat} {Q : eM → Prop} (hd : 3 ≤ d) (n : Nat) : ∀ (l0 : Nat) (l1 : Int32) (l2 : Int32) (l3 : Int32) (l4 : Int32) (M : eM), w_Mod_collect_206 n l0 l1 l2 l3 l4 M Q → e_E 200 d 0 0 206 [(0, .ref l0), (1, .int l1), (2, .int l2), (3, .int l3), (4, .int l4)] [] M (e_QV Q) := by
  induction n with
  | zero => intro l0 l1 l2 l3 l4 M h; exact False.elim h
  | succ n ih =>
    intro l0 l1 l2 l3 l4 M h
    have hk206 := ih
    refine r_iload (kd200 rfl) rfl rfl ?_
    refine r_aload_n (kd200 rfl) rfl rfl ?_
    obtain ⟨g, h⟩ := h
    refine r_get0 (kd200 rfl) (by decide) rfl g rfl ?_
    refine r_icmp_ge (kd200 rfl) rfl (fun c => ?_) (fun c => ?_)
    · have h := h.1 c
      refine r_aload_n (kd200 rfl) rfl rfl ?_
      refine r_iload_n (kd200 rfl) rfl rfl ?_
      obtain ⟨g, h⟩ := h
      have h := h _ rfl
      refine r_put0 (kd200 rfl) (by decide) rfl g rfl ?_
      refine r_aload_n (kd200 rfl) rfl rfl ?_
      refine r_iload_n (kd200 rfl) rfl rfl ?_
      obtain ⟨g, h⟩ := h
      have h := h _ rfl
      refine r_put0 (kd200 rfl) (by decide) rfl g rfl ?_
      refine r_aload_n (kd200 rfl) rfl rfl ?_
      refine r_iconst (kd200 rfl) (y := 3) (by decide) rfl ?_
      refine r_aload_n (kd200 rfl) rfl rfl ?_
      obtain ⟨g, h⟩ := h
      refine r_get2 (kd200 rfl) (by decide) rfl g rfl ?_
      refine r_aload_n (kd200 rfl) rfl rfl ?_
      obtain ⟨g, h⟩ := h
      refine r_get0 (kd200 rfl) (by decide) rfl g rfl ?_
      refine r_iconst (kd200 rfl) (y := 1) (by decide) rfl ?_
      refine r_isub (kd200 rfl) rfl ?_
      obtain ⟨g, h⟩ := h
      refine r_iaload (kd200 rfl) g rfl ?_
      refine r_iload_n (kd200 rfl) rfl rfl ?_
      refine r_aload_n (kd200 rfl) rfl rfl ?_
      obtain ⟨g, h⟩ := h
      refine r_get0 (kd200 rfl) (by decide) rfl g rfl ?_
      obtain ⟨g, h⟩ := h
      refine r_callVV (d' := d - 1) (by omega) (kd200 rfl) (by decide) rfl rfl rfl rfl (Nat.le_of_ble_eq_true rfl) rfl L187 (Nat.le_of_ble_eq_true rfl) (Nat.le_of_ble_eq_true rfl) g (Nat.zero_le _) (Nat.zero_le _) rfl rfl rfl (b_Mod_note (by omega) h) (fun M1 h => ?_)
      exact r_return (kd200 rfl) R200 h
    · have h := h.2 c
      refine r_aload_n (kd200 rfl) rfl rfl ?_
      obtain ⟨g, h⟩ := h
      refine r_get2 (kd200 rfl) (by decide) rfl g rfl ?_
      refine r_iload (kd200 rfl) rfl rfl ?_
      obtain ⟨g, h⟩ := h
      refine r_baload (kd200 rfl) g rfl ?_
      refine r_if_ne (kd200 rfl) rfl (fun c => ?_) (fun c => ?_)
      · have h := h.1 c
        refine r_iconst (kd200 rfl) (y := 0) (by decide) rfl ?_
        refine r_istore (kd200 rfl) L200 (by decide) rfl rfl ?_
        obtain ⟨n, h⟩ := h
        exact (b_Mod_collect_231 hd n hk206 _ _ _ _ _ _ _ h).less (e_sc (List.mem_of_getElem? (i := 1) rfl) (e_sc (List.mem_of_getElem? (i := 2) rfl) (e_sc (List.mem_of_getElem? (i := 3) rfl) (e_sc (List.mem_of_getElem? (i := 4) rfl) (e_sc (List.mem_of_getElem? (i := 5) rfl) (e_sc (List.mem_of_getElem? (i := 0) rfl) e_sn))))))
      · have h := h.2 c
        refine r_goto (kd200 rfl) ?_
        exact (b_Mod_collect_350 hd hk206 h).less (e_sc (List.mem_of_getElem? (i := 0) rfl) (e_sc (List.mem_of_getElem? (i := 1) rfl) (e_sc (List.mem_of_getElem? (i := 2) rfl) (e_sc (List.mem_of_getElem? (i := 3) rfl) (e_sc (List.mem_of_getElem? (i := 4) rfl) e_sn)))))
set_option maxRecDepth 100000 in
def w_Mod_collect_170 : Nat → Nat → Int32 → Int32 → eM → (eM → Prop) → Prop
  | 0, _, _, _, _, _ => False
  | n + 1, l0, l1, l2, M, Q => e_ob M l0 12 ∧ ((gi M l0 88) ≤ l2 → e_ob M l0 12 ∧ ∀ M16 : eM, M16 = e_si M l0 71 0 → ∃ n17 : Nat, w_Mod_collect_206 n17 l0 l1 0 0 0 M16 Q) ∧ (¬ (gi M l0 88) ≤ l2 → e_ob M l0 12 ∧ e_ai M (gr M l0 89) l2 ∧ e_ob M l0 12 ∧ w_Mod_reachFields l0 (gi M (gr M l0 89) l2.toNatClampNeg) M (fun (M18 : eM) => (fun l0 l1 l2 M => w_Mod_collect_170 n l0 l1 l2 M Q ) l0 l1 (l2 + 1) M18))
set_option maxRecDepth 100000 in
theorem b_Mod_collect_170 {d : Nat} {Q : eM → Prop} (hd : 3 ≤ d) (n : Nat) : ∀ (l0 : Nat) (l1 : Int32) (l2 : Int32) (M : eM), w_Mod_collect_170 n l0 l1 l2 M Q → e_E 200 d 0 0 170 [(0, .ref l0), (1, .int l1), (2, .int l2)] [] M (e_QV Q) := by
  induction n with
  | zero => intro l0 l1 l2 M h; exact False.elim h
  | succ n ih =>
    intro l0 l1 l2 M h
    have hk170 := ih
    refine r_iload_n (kd200 rfl) rfl rfl ?_
    refine r_aload_n (kd200 rfl) rfl rfl ?_
    obtain ⟨g, h⟩ := h
    refine r_get0 (kd200 rfl) (by decide) rfl g rfl ?_
    refine r_icmp_ge (kd200 rfl) rfl (fun c => ?_) (fun c => ?_)
    · have h := h.1 c
      refine r_iconst (kd200 rfl) (y := 0) (by decide) rfl ?_
      refine r_istore_n (kd200 rfl) L200 (by decide) rfl rfl ?_
      refine r_iconst (kd200 rfl) (y := 0) (by decide) rfl ?_
      refine r_istore_n (kd200 rfl) L200 (by decide) rfl rfl ?_
      refine r_aload_n (kd200 rfl) rfl rfl ?_
      refine r_iconst (kd200 rfl) (y := 0) (by decide) rfl ?_
      obtain ⟨g, h⟩ := h
      have h := h _ rfl
      refine r_put0 (kd200 rfl) (by decide) rfl g rfl ?_
      refine r_iconst (kd200 rfl) (y := 0) (by decide) rfl ?_
      refine r_istore (kd200 rfl) L200 (by decide) rfl rfl ?_
      obtain ⟨n, h⟩ := h
      exact (b_Mod_collect_206 hd n _ _ _ _ _ _ h).less (e_sc (List.mem_of_getElem? (i := 3) rfl) (e_sc (List.mem_of_getElem? (i := 4) rfl) (e_sc (List.mem_of_getElem? (i := 2) rfl) (e_sc (List.mem_of_getElem? (i := 1) rfl) (e_sc (List.mem_of_getElem? (i := 0) rfl) e_sn)))))
    · have h := h.2 c
      refine r_aload_n (kd200 rfl) rfl rfl ?_
      refine r_aload_n (kd200 rfl) rfl rfl ?_
      obtain ⟨g, h⟩ := h
      refine r_get2 (kd200 rfl) (by decide) rfl g rfl ?_
      refine r_iload_n (kd200 rfl) rfl rfl ?_
      obtain ⟨g, h⟩ := h
      refine r_iaload (kd200 rfl) g rfl ?_
      obtain ⟨g, h⟩ := h
      refine r_callVV (d' := d - 1) (by omega) (kd200 rfl) (by decide) rfl rfl rfl rfl (Nat.le_of_ble_eq_true rfl) rfl L197 (Nat.le_of_ble_eq_true rfl) (Nat.le_of_ble_eq_true rfl) g (Nat.zero_le _) (Nat.zero_le _) rfl rfl rfl (b_Mod_reachFields (by omega) h) (fun M1 h => ?_)
      refine r_iinc (kd200 rfl) rfl (y := 1) (by decide) L200 (by decide) rfl rfl ?_
      refine r_goto (kd200 rfl) ?_
      exact (hk170 _ _ _ _ h).less (e_sc (List.mem_of_getElem? (i := 1) rfl) (e_sc (List.mem_of_getElem? (i := 2) rfl) (e_sc (List.mem_of_getElem? (i := 0) rfl) e_sn)))
set_option maxRecDepth 100000 in
def w_Mod_collect_35 : Nat → Nat → Int32 → Int32 → eM → (eM → Prop) → Prop
  | 0, _, _, _, _, _ => False
  | n + 1, l0, l1, l2, M, Q => e_ob M l0 12 ∧ ((gi M l0 60) ≤ l2 → ∃ n5 : Nat, w_Mod_collect_170 n5 l0 l1 0 M Q) ∧ (¬ (gi M l0 60) ≤ l2 → e_ob M l0 12 ∧ w_Mod_rowOf l0 l2 M (fun (v7 : Int32) (M6 : eM) => ∃ n8 : Nat, w_Mod_collect_55 n8 l0 l1 l2 (16 * v7) 0 M6 Q (fun l0 l1 l2 M => w_Mod_collect_35 n l0 l1 l2 M Q )))
set_option maxRecDepth 100000 in
theorem b_Mod_collect_35 {d : Nat} {Q : eM → Prop} (hd : 3 ≤ d) (n : Nat) : ∀ (l0 : Nat) (l1 : Int32) (l2 : Int32) (M : eM), w_Mod_collect_35 n l0 l1 l2 M Q → e_E 200 d 0 0 35 [(0, .ref l0), (1, .int l1), (2, .int l2)] [] M (e_QV Q) := by
  induction n with
  | zero => intro l0 l1 l2 M h; exact False.elim h
  | succ n ih =>
    intro l0 l1 l2 M h
    have hk35 := ih
    refine r_iload_n (kd200 rfl) rfl rfl ?_
    refine r_aload_n (kd200 rfl) rfl rfl ?_
    obtain ⟨g, h⟩ := h
    refine r_get0 (kd200 rfl) (by decide) rfl g rfl ?_
    refine r_icmp_ge (kd200 rfl) rfl (fun c => ?_) (fun c => ?_)
    · have h := h.1 c
      refine r_iconst (kd200 rfl) (y := 0) (by decide) rfl ?_
      refine r_istore_n (kd200 rfl) L200 (by decide) rfl rfl ?_
      obtain ⟨n, h⟩ := h
      exact (b_Mod_collect_170 hd n _ _ _ _ h).less (e_sc (List.mem_of_getElem? (i := 1) rfl) (e_sc (List.mem_of_getElem? (i := 2) rfl) (e_sc (List.mem_of_getElem? (i := 0) rfl) e_sn)))
    · have h := h.2 c
      refine r_bipush (kd200 rfl) (y := 16) (by decide) rfl ?_
      refine r_aload_n (kd200 rfl) rfl rfl ?_
      refine r_iload_n (kd200 rfl) rfl rfl ?_
      obtain ⟨g, h⟩ := h
      refine r_callVI (d' := d - 1) (by omega) (kd200 rfl) (by decide) rfl rfl rfl rfl (Nat.le_of_ble_eq_true rfl) rfl L199 (Nat.le_of_ble_eq_true rfl) (Nat.le_of_ble_eq_true rfl) g (Nat.zero_le _) (Nat.zero_le _) rfl rfl rfl (b_Mod_rowOf (by omega) h) (fun x1 M1 h => ?_)
      refine r_imul (kd200 rfl) rfl ?_
      refine r_istore_n (kd200 rfl) L200 (by decide) rfl rfl ?_
      refine r_iconst (kd200 rfl) (y := 0) (by decide) rfl ?_
      refine r_istore (kd200 rfl) L200 (by decide) rfl rfl ?_
      obtain ⟨n, h⟩ := h
      exact (b_Mod_collect_55 hd n hk35 _ _ _ _ _ _ h).less (e_sc (List.mem_of_getElem? (i := 2) rfl) (e_sc (List.mem_of_getElem? (i := 3) rfl) (e_sc (List.mem_of_getElem? (i := 4) rfl) (e_sc (List.mem_of_getElem? (i := 1) rfl) (e_sc (List.mem_of_getElem? (i := 0) rfl) e_sn)))))
set_option maxRecDepth 100000 in
def w_Mod_collect_7 : Nat → Nat → Int32 → Int32 → eM → (eM → Prop) → Prop
  | 0, _, _, _, _, _ => False
  | n + 1, l0, l1, l2, M, Q => e_ob M l0 12 ∧ ((gi M l0 73) ≤ l2 → e_ob M l0 12 ∧ ∀ M2 : eM, M2 = e_si M l0 88 0 → ∃ n3 : Nat, w_Mod_collect_35 n3 l0 l1 0 M2 Q) ∧ (¬ (gi M l0 73) ≤ l2 → e_ob M l0 12 ∧ e_ar M (gr M l0 78) 22 l2 ∧ ∀ M4 : eM, M4 = e_si M (gr M l0 78) l2.toNatClampNeg (vp_nar .boolean 0) → (fun l0 l1 l2 M => w_Mod_collect_7 n l0 l1 l2 M Q ) l0 l1 (l2 + 1) M4)
set_option maxRecDepth 100000 in
theorem b_Mod_collect_7 {d : Nat} {Q : eM → Prop} (hd : 3 ≤ d) (n : Nat) : ∀ (l0 : Nat) (l1 : Int32) (l2 : Int32) (M : eM), w_Mod_collect_7 n l0 l1 l2 M Q → e_E 200 d 0 0 7 [(0, .ref l0), (1, .int l1), (2, .int l2)] [] M (e_QV Q) := by
  induction n with
  | zero => intro l0 l1 l2 M h; exact False.elim h
  | succ n ih =>
    intro l0 l1 l2 M h
    have hk7 := ih
    refine r_iload_n (kd200 rfl) rfl rfl ?_
    refine r_aload_n (kd200 rfl) rfl rfl ?_
    obtain ⟨g, h⟩ := h
    refine r_get0 (kd200 rfl) (by decide) rfl g rfl ?_
    refine r_icmp_ge (kd200 rfl) rfl (fun c => ?_) (fun c => ?_)
    · have h := h.1 c
      refine r_aload_n (kd200 rfl) rfl rfl ?_
      refine r_iconst (kd200 rfl) (y := 0) (by decide) rfl ?_
      obtain ⟨g, h⟩ := h
      have h := h _ rfl
      refine r_put0 (kd200 rfl) (by decide) rfl g rfl ?_
      refine r_iconst (kd200 rfl) (y := 0) (by decide) rfl ?_
      refine r_istore_n (kd200 rfl) L200 (by decide) rfl rfl ?_
      obtain ⟨n, h⟩ := h
      exact (b_Mod_collect_35 hd n _ _ _ _ h).less (e_sc (List.mem_of_getElem? (i := 1) rfl) (e_sc (List.mem_of_getElem? (i := 2) rfl) (e_sc (List.mem_of_getElem? (i := 0) rfl) e_sn)))
    · have h := h.2 c
      refine r_aload_n (kd200 rfl) rfl rfl ?_
      obtain ⟨g, h⟩ := h
      refine r_get2 (kd200 rfl) (by decide) rfl g rfl ?_
      refine r_iload_n (kd200 rfl) rfl rfl ?_
      refine r_iconst (kd200 rfl) (y := 0) (by decide) rfl ?_
      obtain ⟨g, h⟩ := h
      have h := h _ rfl
      refine r_bastore (kd200 rfl) g rfl ?_
      refine r_iinc (kd200 rfl) rfl (y := 1) (by decide) L200 (by decide) rfl rfl ?_
      refine r_goto (kd200 rfl) ?_
      exact (hk7 _ _ _ _ h).less (e_sc (List.mem_of_getElem? (i := 1) rfl) (e_sc (List.mem_of_getElem? (i := 2) rfl) (e_sc (List.mem_of_getElem? (i := 0) rfl) e_sn)))
set_option maxRecDepth 100000 in
def w_Mod_collect (l0 : Nat) (M : eM) (Q : eM → Prop) : Prop := e_ob M l0 12 ∧ ∃ n1 : Nat, w_Mod_collect_7 n1 l0 (gi M l0 71) 0 M Q
set_option maxRecDepth 100000 in
theorem b_Mod_collect {d : Nat} {l0 : Nat} {M : eM} {Q : eM → Prop} (hd : 3 ≤ d) (h : w_Mod_collect l0 M Q) : e_CV 200 d 0 0 [.ref l0] M Q := by
  unfold w_Mod_collect at h
  show e_E 200 d 0 0 0 [(0, .ref l0)] [] M (e_QV Q)
  refine r_aload_n (kd200 rfl) rfl rfl ?_
  obtain ⟨g, h⟩ := h
  refine r_get0 (kd200 rfl) (by decide) rfl g rfl ?_
  refine r_istore_n (kd200 rfl) L200 (by decide) rfl rfl ?_
  refine r_iconst (kd200 rfl) (y := 0) (by decide) rfl ?_
  refine r_istore_n (kd200 rfl) L200 (by decide) rfl rfl ?_
  obtain ⟨n, h⟩ := h
  exact (b_Mod_collect_7 hd n _ _ _ _ h).less (e_sc (List.mem_of_getElem? (i := 2) rfl) (e_sc (List.mem_of_getElem? (i := 1) rfl) (e_sc (List.mem_of_getElem? (i := 0) rfl) e_sn)))
/-- TierMillModel.make(II)I -/
theorem kd201 {pc : Nat} {q : eI} (h : e_d201.lookup pc = some q) : e_dec 201 pc = some q := h
theorem L201 : (e_m 201).2.2.1 = 4 := rfl
theorem R201 : (e_m 201).2.2.2.1 = (some .int) := rfl
def w_Mod_make_118 : Nat → Nat → Int32 → Int32 → eM → (Int32 → eM → Prop) → Prop
  | 0, _, _, _, _, _ => False
  | n + 1, l0, l2, l3, M, Q => (l2 ≤ l3 → e_ob M l0 12 ∧ e_ob M l0 12 ∧ ∀ M9 : eM, M9 = e_si M l0 79 ((gi M l0 79) + l2) → e_ob M9 l0 12 ∧ e_ob M9 l0 12 ∧ ∀ M10 : eM, M10 = e_si M9 l0 73 ((gi M9 l0 73) + 1) → e_ob M10 l0 12 ∧ Q (gi M10 l0 72) M10) ∧ (¬ l2 ≤ l3 → e_ob M l0 12 ∧ e_ob M l0 12 ∧ e_ar M (gr M l0 80) 20 ((gi M l0 79) + l3) ∧ ∀ M11 : eM, M11 = e_si M (gr M l0 80) ((gi M l0 79) + l3).toNatClampNeg 0 → (fun l0 l2 l3 M => w_Mod_make_118 n l0 l2 l3 M Q ) l0 l2 (l3 + 1) M11)
theorem b_Mod_make_118 {d : Nat} {Q : Int32 → eM → Prop} (hd : 4 ≤ d) (n : Nat) : ∀ (l0 : Nat) (l2 : Int32) (l3 : Int32) (M : eM), w_Mod_make_118 n l0 l2 l3 M Q → e_E 201 d 0 0 118 [(0, .ref l0), (2, .int l2), (3, .int l3)] [] M (e_QI Q) := by
  induction n with
  | zero => intro l0 l2 l3 M h; exact False.elim h
  | succ n ih =>
    intro l0 l2 l3 M h
    have hk118 := ih
    refine r_iload_n (kd201 rfl) rfl rfl ?_
    refine r_iload_n (kd201 rfl) rfl rfl ?_
    refine r_icmp_ge (kd201 rfl) rfl (fun c => ?_) (fun c => ?_)
    · have h := h.1 c
      refine r_aload_n (kd201 rfl) rfl rfl ?_
      refine r_dup (kd201 rfl) rfl rfl ?_
      obtain ⟨g, h⟩ := h
      refine r_get0 (kd201 rfl) (by decide) rfl g rfl ?_
      refine r_iload_n (kd201 rfl) rfl rfl ?_
      refine r_iadd (kd201 rfl) rfl ?_
      obtain ⟨g, h⟩ := h
      have h := h _ rfl
      refine r_put0 (kd201 rfl) (by decide) rfl g rfl ?_
      refine r_aload_n (kd201 rfl) rfl rfl ?_
      refine r_dup (kd201 rfl) rfl rfl ?_
      obtain ⟨g, h⟩ := h
      refine r_get0 (kd201 rfl) (by decide) rfl g rfl ?_
      refine r_iconst (kd201 rfl) (y := 1) (by decide) rfl ?_
      refine r_iadd (kd201 rfl) rfl ?_
      obtain ⟨g, h⟩ := h
      have h := h _ rfl
      refine r_put0 (kd201 rfl) (by decide) rfl g rfl ?_
      refine r_aload_n (kd201 rfl) rfl rfl ?_
      obtain ⟨g, h⟩ := h
      refine r_get0 (kd201 rfl) (by decide) rfl g rfl ?_
      exact r_ireturn (kd201 rfl) R201 h
    · have h := h.2 c
      refine r_aload_n (kd201 rfl) rfl rfl ?_
      obtain ⟨g, h⟩ := h
      refine r_get2 (kd201 rfl) (by decide) rfl g rfl ?_
      refine r_aload_n (kd201 rfl) rfl rfl ?_
      obtain ⟨g, h⟩ := h
      refine r_get0 (kd201 rfl) (by decide) rfl g rfl ?_
      refine r_iload_n (kd201 rfl) rfl rfl ?_
      refine r_iadd (kd201 rfl) rfl ?_
      refine r_iconst (kd201 rfl) (y := 0) (by decide) rfl ?_
      obtain ⟨g, h⟩ := h
      have h := h _ rfl
      refine r_iastore (kd201 rfl) g rfl ?_
      refine r_iinc (kd201 rfl) rfl (y := 1) (by decide) L201 (by decide) rfl rfl ?_
      refine r_goto (kd201 rfl) ?_
      exact (hk118 _ _ _ _ h).less (e_sc (List.mem_of_getElem? (i := 1) rfl) (e_sc (List.mem_of_getElem? (i := 2) rfl) (e_sc (List.mem_of_getElem? (i := 0) rfl) e_sn)))
def w_Mod_make_25 (l0 : Nat) (l1 : Int32) (l2 : Int32) (M : eM) (Q : Int32 → eM → Prop) : Prop := e_ob M l0 12 ∧ e_ob M l0 12 ∧ ((lg_cmp ((((gi M l0 71).toInt64) + 2) + (l2.toInt64)) ((gi M l0 70).toInt64)) ≤ 0 → e_ob M l0 12 ∧ e_ob M l0 12 ∧ ∀ M2 : eM, M2 = e_si M l0 71 ((gi M l0 71) + (2 + l2)) → e_ob M2 l0 12 ∧ e_ob M2 l0 12 ∧ ∀ M3 : eM, M3 = e_si M2 l0 72 ((gi M2 l0 72) + 1) → e_ob M3 l0 12 ∧ e_ob M3 l0 12 ∧ e_ob M3 l0 12 ∧ e_ar M3 (gr M3 l0 74) 20 (gi M3 l0 73) ∧ ∀ M4 : eM, M4 = e_si M3 (gr M3 l0 74) (gi M3 l0 73).toNatClampNeg (gi M3 l0 72) → e_ob M4 l0 12 ∧ e_ob M4 l0 12 ∧ e_ar M4 (gr M4 l0 75) 20 (gi M4 l0 73) ∧ ∀ M5 : eM, M5 = e_si M4 (gr M4 l0 75) (gi M4 l0 73).toNatClampNeg l1 → e_ob M5 l0 12 ∧ e_ob M5 l0 12 ∧ e_ar M5 (gr M5 l0 77) 20 (gi M5 l0 73) ∧ ∀ M6 : eM, M6 = e_si M5 (gr M5 l0 77) (gi M5 l0 73).toNatClampNeg l2 → e_ob M6 l0 12 ∧ e_ob M6 l0 12 ∧ e_ob M6 l0 12 ∧ e_ar M6 (gr M6 l0 76) 20 (gi M6 l0 73) ∧ ∀ M7 : eM, M7 = e_si M6 (gr M6 l0 76) (gi M6 l0 73).toNatClampNeg (gi M6 l0 79) → ∃ n8 : Nat, w_Mod_make_118 n8 l0 l2 0 M7 Q) ∧ (¬ (lg_cmp ((((gi M l0 71).toInt64) + 2) + (l2.toInt64)) ((gi M l0 70).toInt64)) ≤ 0 → Q ((-1) : Int32) M)
theorem b_Mod_make_25 {d : Nat} {l0 : Nat} {l1 : Int32} {l2 : Int32} {M : eM} {Q : Int32 → eM → Prop} (hd : 4 ≤ d) (h : w_Mod_make_25 l0 l1 l2 M Q ) : e_E 201 d 0 0 25 [(0, .ref l0), (1, .int l1), (2, .int l2)] [] M (e_QI Q) := by
  unfold w_Mod_make_25 at h
  refine r_aload_n (kd201 rfl) rfl rfl ?_
  obtain ⟨g, h⟩ := h
  refine r_get0 (kd201 rfl) (by decide) rfl g rfl ?_
  refine r_i2l (kd201 rfl) rfl ?_
  refine r_ldc2_w (kd201 rfl) (y := 2) (by decide) rfl ?_
  refine r_ladd (kd201 rfl) rfl ?_
  refine r_iload_n (kd201 rfl) rfl rfl ?_
  refine r_i2l (kd201 rfl) rfl ?_
  refine r_ladd (kd201 rfl) rfl ?_
  refine r_aload_n (kd201 rfl) rfl rfl ?_
  obtain ⟨g, h⟩ := h
  refine r_get0 (kd201 rfl) (by decide) rfl g rfl ?_
  refine r_i2l (kd201 rfl) rfl ?_
  refine r_lcmp (kd201 rfl) rfl ?_
  refine r_if_le (kd201 rfl) rfl (fun c => ?_) (fun c => ?_)
  · have h := h.1 c
    refine r_aload_n (kd201 rfl) rfl rfl ?_
    refine r_dup (kd201 rfl) rfl rfl ?_
    obtain ⟨g, h⟩ := h
    refine r_get0 (kd201 rfl) (by decide) rfl g rfl ?_
    refine r_iconst (kd201 rfl) (y := 2) (by decide) rfl ?_
    refine r_iload_n (kd201 rfl) rfl rfl ?_
    refine r_iadd (kd201 rfl) rfl ?_
    refine r_iadd (kd201 rfl) rfl ?_
    obtain ⟨g, h⟩ := h
    have h := h _ rfl
    refine r_put0 (kd201 rfl) (by decide) rfl g rfl ?_
    refine r_aload_n (kd201 rfl) rfl rfl ?_
    refine r_dup (kd201 rfl) rfl rfl ?_
    obtain ⟨g, h⟩ := h
    refine r_get0 (kd201 rfl) (by decide) rfl g rfl ?_
    refine r_iconst (kd201 rfl) (y := 1) (by decide) rfl ?_
    refine r_iadd (kd201 rfl) rfl ?_
    obtain ⟨g, h⟩ := h
    have h := h _ rfl
    refine r_put0 (kd201 rfl) (by decide) rfl g rfl ?_
    refine r_aload_n (kd201 rfl) rfl rfl ?_
    obtain ⟨g, h⟩ := h
    refine r_get2 (kd201 rfl) (by decide) rfl g rfl ?_
    refine r_aload_n (kd201 rfl) rfl rfl ?_
    obtain ⟨g, h⟩ := h
    refine r_get0 (kd201 rfl) (by decide) rfl g rfl ?_
    refine r_aload_n (kd201 rfl) rfl rfl ?_
    obtain ⟨g, h⟩ := h
    refine r_get0 (kd201 rfl) (by decide) rfl g rfl ?_
    obtain ⟨g, h⟩ := h
    have h := h _ rfl
    refine r_iastore (kd201 rfl) g rfl ?_
    refine r_aload_n (kd201 rfl) rfl rfl ?_
    obtain ⟨g, h⟩ := h
    refine r_get2 (kd201 rfl) (by decide) rfl g rfl ?_
    refine r_aload_n (kd201 rfl) rfl rfl ?_
    obtain ⟨g, h⟩ := h
    refine r_get0 (kd201 rfl) (by decide) rfl g rfl ?_
    refine r_iload_n (kd201 rfl) rfl rfl ?_
    obtain ⟨g, h⟩ := h
    have h := h _ rfl
    refine r_iastore (kd201 rfl) g rfl ?_
    refine r_aload_n (kd201 rfl) rfl rfl ?_
    obtain ⟨g, h⟩ := h
    refine r_get2 (kd201 rfl) (by decide) rfl g rfl ?_
    refine r_aload_n (kd201 rfl) rfl rfl ?_
    obtain ⟨g, h⟩ := h
    refine r_get0 (kd201 rfl) (by decide) rfl g rfl ?_
    refine r_iload_n (kd201 rfl) rfl rfl ?_
    obtain ⟨g, h⟩ := h
    have h := h _ rfl
    refine r_iastore (kd201 rfl) g rfl ?_
    refine r_aload_n (kd201 rfl) rfl rfl ?_
    obtain ⟨g, h⟩ := h
    refine r_get2 (kd201 rfl) (by decide) rfl g rfl ?_
    refine r_aload_n (kd201 rfl) rfl rfl ?_
    obtain ⟨g, h⟩ := h
    refine r_get0 (kd201 rfl) (by decide) rfl g rfl ?_
    refine r_aload_n (kd201 rfl) rfl rfl ?_
    obtain ⟨g, h⟩ := h
    refine r_get0 (kd201 rfl) (by decide) rfl g rfl ?_
    obtain ⟨g, h⟩ := h
    have h := h _ rfl
    refine r_iastore (kd201 rfl) g rfl ?_
    refine r_iconst (kd201 rfl) (y := 0) (by decide) rfl ?_
    refine r_istore_n (kd201 rfl) L201 (by decide) rfl rfl ?_
    obtain ⟨n, h⟩ := h
    exact (b_Mod_make_118 hd n _ _ _ _ h).less (e_sc (List.mem_of_getElem? (i := 1) rfl) (e_sc (List.mem_of_getElem? (i := 3) rfl) (e_sc (List.mem_of_getElem? (i := 0) rfl) e_sn)))
  · have h := h.2 c
    refine r_iconst (kd201 rfl) (y := (-1)) (by decide) rfl ?_
    exact r_ireturn (kd201 rfl) R201 h
def w_Mod_make (l0 : Nat) (l1 : Int32) (l2 : Int32) (M : eM) (Q : Int32 → eM → Prop) : Prop := e_ob M l0 12 ∧ e_ob M l0 12 ∧ ((lg_cmp ((((gi M l0 71).toInt64) + 2) + (l2.toInt64)) ((gi M l0 70).toInt64)) ≤ 0 → w_Mod_make_25 l0 l1 l2 M Q) ∧ (¬ (lg_cmp ((((gi M l0 71).toInt64) + 2) + (l2.toInt64)) ((gi M l0 70).toInt64)) ≤ 0 → e_ob M l0 12 ∧ w_Mod_collect l0 M (fun (M1 : eM) => w_Mod_make_25 l0 l1 l2 M1 Q))
theorem b_Mod_make {d : Nat} {l0 : Nat} {l1 : Int32} {l2 : Int32} {M : eM} {Q : Int32 → eM → Prop} (hd : 4 ≤ d) (h : w_Mod_make l0 l1 l2 M Q) : e_CI 201 d 0 0 [.ref l0, .int l1, .int l2] M Q := by
  unfold w_Mod_make at h
  show e_E 201 d 0 0 0 [(0, .ref l0), (1, .int l1), (2, .int l2)] [] M (e_QI Q)
  refine r_aload_n (kd201 rfl) rfl rfl ?_
  obtain ⟨g, h⟩ := h
  refine r_get0 (kd201 rfl) (by decide) rfl g rfl ?_
  refine r_i2l (kd201 rfl) rfl ?_
  refine r_ldc2_w (kd201 rfl) (y := 2) (by decide) rfl ?_
  refine r_ladd (kd201 rfl) rfl ?_
  refine r_iload_n (kd201 rfl) rfl rfl ?_
  refine r_i2l (kd201 rfl) rfl ?_
  refine r_ladd (kd201 rfl) rfl ?_
  refine r_aload_n (kd201 rfl) rfl rfl ?_
  obtain ⟨g, h⟩ := h
  refine r_get0 (kd201 rfl) (by decide) rfl g rfl ?_
  refine r_i2l (kd201 rfl) rfl ?_
  refine r_lcmp (kd201 rfl) rfl ?_
  refine r_if_le (kd201 rfl) rfl (fun c => ?_) (fun c => ?_)
  · have h := h.1 c
    exact (b_Mod_make_25 hd h).less (e_sc (List.mem_of_getElem? (i := 0) rfl) (e_sc (List.mem_of_getElem? (i := 1) rfl) (e_sc (List.mem_of_getElem? (i := 2) rfl) e_sn)))
  · have h := h.2 c
    refine r_aload_n (kd201 rfl) rfl rfl ?_
    obtain ⟨g, h⟩ := h
    refine r_callVV (d' := d - 1) (by omega) (kd201 rfl) (by decide) rfl rfl rfl rfl (Nat.le_of_ble_eq_true rfl) rfl L200 (Nat.le_of_ble_eq_true rfl) (Nat.le_of_ble_eq_true rfl) g (Nat.zero_le _) (Nat.zero_le _) rfl rfl rfl (b_Mod_collect (by omega) h) (fun M1 h => ?_)
    exact (b_Mod_make_25 hd h).less (e_sc (List.mem_of_getElem? (i := 0) rfl) (e_sc (List.mem_of_getElem? (i := 1) rfl) (e_sc (List.mem_of_getElem? (i := 2) rfl) e_sn)))
/-- TierMillModel.pop()I -/
theorem kd202 {pc : Nat} {q : eI} (h : e_d202.lookup pc = some q) : e_dec 202 pc = some q := h
theorem L202 : (e_m 202).2.2.1 = 2 := rfl
theorem R202 : (e_m 202).2.2.2.1 = (some .int) := rfl
def w_Mod_pop (l0 : Nat) (M : eM) (Q : Int32 → eM → Prop) : Prop := e_ob M l0 12 ∧ e_ob M l0 12 ∧ e_ai M (gr M l0 67) ((gi M l0 60) - 1) ∧ e_ar M (gr M l0 67) 20 ((gi M l0 60) - 1) ∧ ∀ M1 : eM, M1 = e_si M (gr M l0 67) ((gi M l0 60) - 1).toNatClampNeg ((gi M (gr M l0 67) ((gi M l0 60) - 1).toNatClampNeg) - 1) → e_ob M1 l0 12 ∧ e_ob M1 l0 12 ∧ e_ai M1 (gr M1 l0 67) ((gi M l0 60) - 1) ∧ e_ai M1 (gr M1 l0 69) ((8 * ((gi M l0 60) - 1)) + (gi M1 (gr M1 l0 67) ((gi M l0 60) - 1).toNatClampNeg)) ∧ Q (gi M1 (gr M1 l0 69) ((8 * ((gi M l0 60) - 1)) + (gi M1 (gr M1 l0 67) ((gi M l0 60) - 1).toNatClampNeg)).toNatClampNeg) M1
theorem b_Mod_pop {d : Nat} {l0 : Nat} {M : eM} {Q : Int32 → eM → Prop} (hd : 0 ≤ d) (h : w_Mod_pop l0 M Q) : e_CI 202 d 0 0 [.ref l0] M Q := by
  unfold w_Mod_pop at h
  show e_E 202 d 0 0 0 [(0, .ref l0)] [] M (e_QI Q)
  refine r_aload_n (kd202 rfl) rfl rfl ?_
  obtain ⟨g, h⟩ := h
  refine r_get0 (kd202 rfl) (by decide) rfl g rfl ?_
  refine r_iconst (kd202 rfl) (y := 1) (by decide) rfl ?_
  refine r_isub (kd202 rfl) rfl ?_
  refine r_istore_n (kd202 rfl) L202 (by decide) rfl rfl ?_
  refine r_aload_n (kd202 rfl) rfl rfl ?_
  obtain ⟨g, h⟩ := h
  refine r_get2 (kd202 rfl) (by decide) rfl g rfl ?_
  refine r_iload_n (kd202 rfl) rfl rfl ?_
  refine r_dup2 (kd202 rfl) rfl rfl rfl ?_
  obtain ⟨g, h⟩ := h
  refine r_iaload (kd202 rfl) g rfl ?_
  refine r_iconst (kd202 rfl) (y := 1) (by decide) rfl ?_
  refine r_isub (kd202 rfl) rfl ?_
  obtain ⟨g, h⟩ := h
  have h := h _ rfl
  refine r_iastore (kd202 rfl) g rfl ?_
  refine r_aload_n (kd202 rfl) rfl rfl ?_
  obtain ⟨g, h⟩ := h
  refine r_get2 (kd202 rfl) (by decide) rfl g rfl ?_
  refine r_bipush (kd202 rfl) (y := 8) (by decide) rfl ?_
  refine r_iload_n (kd202 rfl) rfl rfl ?_
  refine r_imul (kd202 rfl) rfl ?_
  refine r_aload_n (kd202 rfl) rfl rfl ?_
  obtain ⟨g, h⟩ := h
  refine r_get2 (kd202 rfl) (by decide) rfl g rfl ?_
  refine r_iload_n (kd202 rfl) rfl rfl ?_
  obtain ⟨g, h⟩ := h
  refine r_iaload (kd202 rfl) g rfl ?_
  refine r_iadd (kd202 rfl) rfl ?_
  obtain ⟨g, h⟩ := h
  refine r_iaload (kd202 rfl) g rfl ?_
  exact r_ireturn (kd202 rfl) R202 h
/-- TierMillModel.push(I)V -/
theorem kd203 {pc : Nat} {q : eI} (h : e_d203.lookup pc = some q) : e_dec 203 pc = some q := h
theorem L203 : (e_m 203).2.2.1 = 3 := rfl
theorem R203 : (e_m 203).2.2.2.1 = none := rfl
def w_Mod_push (l0 : Nat) (l1 : Int32) (M : eM) (Q : eM → Prop) : Prop := e_ob M l0 12 ∧ e_ob M l0 12 ∧ e_ob M l0 12 ∧ e_ai M (gr M l0 67) ((gi M l0 60) - 1) ∧ e_ar M (gr M l0 69) 20 ((8 * ((gi M l0 60) - 1)) + (gi M (gr M l0 67) ((gi M l0 60) - 1).toNatClampNeg)) ∧ ∀ M1 : eM, M1 = e_si M (gr M l0 69) ((8 * ((gi M l0 60) - 1)) + (gi M (gr M l0 67) ((gi M l0 60) - 1).toNatClampNeg)).toNatClampNeg l1 → e_ob M1 l0 12 ∧ e_ai M1 (gr M1 l0 67) ((gi M l0 60) - 1) ∧ e_ar M1 (gr M1 l0 67) 20 ((gi M l0 60) - 1) ∧ ∀ M2 : eM, M2 = e_si M1 (gr M1 l0 67) ((gi M l0 60) - 1).toNatClampNeg ((gi M1 (gr M1 l0 67) ((gi M l0 60) - 1).toNatClampNeg) + 1) → Q M2
theorem b_Mod_push {d : Nat} {l0 : Nat} {l1 : Int32} {M : eM} {Q : eM → Prop} (hd : 0 ≤ d) (h : w_Mod_push l0 l1 M Q) : e_CV 203 d 0 0 [.ref l0, .int l1] M Q := by
  unfold w_Mod_push at h
  show e_E 203 d 0 0 0 [(0, .ref l0), (1, .int l1)] [] M (e_QV Q)
  refine r_aload_n (kd203 rfl) rfl rfl ?_
  obtain ⟨g, h⟩ := h
  refine r_get0 (kd203 rfl) (by decide) rfl g rfl ?_
  refine r_iconst (kd203 rfl) (y := 1) (by decide) rfl ?_
  refine r_isub (kd203 rfl) rfl ?_
  refine r_istore_n (kd203 rfl) L203 (by decide) rfl rfl ?_
  refine r_aload_n (kd203 rfl) rfl rfl ?_
  obtain ⟨g, h⟩ := h
  refine r_get2 (kd203 rfl) (by decide) rfl g rfl ?_
  refine r_bipush (kd203 rfl) (y := 8) (by decide) rfl ?_
  refine r_iload_n (kd203 rfl) rfl rfl ?_
  refine r_imul (kd203 rfl) rfl ?_
  refine r_aload_n (kd203 rfl) rfl rfl ?_
  obtain ⟨g, h⟩ := h
  refine r_get2 (kd203 rfl) (by decide) rfl g rfl ?_
  refine r_iload_n (kd203 rfl) rfl rfl ?_
  obtain ⟨g, h⟩ := h
  refine r_iaload (kd203 rfl) g rfl ?_
  refine r_iadd (kd203 rfl) rfl ?_
  refine r_iload_n (kd203 rfl) rfl rfl ?_
  obtain ⟨g, h⟩ := h
  have h := h _ rfl
  refine r_iastore (kd203 rfl) g rfl ?_
  refine r_aload_n (kd203 rfl) rfl rfl ?_
  obtain ⟨g, h⟩ := h
  refine r_get2 (kd203 rfl) (by decide) rfl g rfl ?_
  refine r_iload_n (kd203 rfl) rfl rfl ?_
  refine r_dup2 (kd203 rfl) rfl rfl rfl ?_
  obtain ⟨g, h⟩ := h
  refine r_iaload (kd203 rfl) g rfl ?_
  refine r_iconst (kd203 rfl) (y := 1) (by decide) rfl ?_
  refine r_iadd (kd203 rfl) rfl ?_
  obtain ⟨g, h⟩ := h
  have h := h _ rfl
  refine r_iastore (kd203 rfl) g rfl ?_
  exact r_return (kd203 rfl) R203 h
/-- TierMillModel.peek(I)I -/
theorem kd204 {pc : Nat} {q : eI} (h : e_d204.lookup pc = some q) : e_dec 204 pc = some q := h
theorem L204 : (e_m 204).2.2.1 = 2 := rfl
theorem R204 : (e_m 204).2.2.2.1 = (some .int) := rfl
def w_Mod_peek (l0 : Nat) (l1 : Int32) (M : eM) (Q : Int32 → eM → Prop) : Prop := e_ob M l0 12 ∧ e_ob M l0 12 ∧ e_ob M l0 12 ∧ e_ob M l0 12 ∧ e_ai M (gr M l0 67) ((gi M l0 60) - 1) ∧ e_ai M (gr M l0 69) (((8 * ((gi M l0 60) - 1)) + (gi M (gr M l0 67) ((gi M l0 60) - 1).toNatClampNeg)) - l1) ∧ Q (gi M (gr M l0 69) (((8 * ((gi M l0 60) - 1)) + (gi M (gr M l0 67) ((gi M l0 60) - 1).toNatClampNeg)) - l1).toNatClampNeg) M
theorem b_Mod_peek {d : Nat} {l0 : Nat} {l1 : Int32} {M : eM} {Q : Int32 → eM → Prop} (hd : 0 ≤ d) (h : w_Mod_peek l0 l1 M Q) : e_CI 204 d 0 0 [.ref l0, .int l1] M Q := by
  unfold w_Mod_peek at h
  show e_E 204 d 0 0 0 [(0, .ref l0), (1, .int l1)] [] M (e_QI Q)
  refine r_aload_n (kd204 rfl) rfl rfl ?_
  obtain ⟨g, h⟩ := h
  refine r_get2 (kd204 rfl) (by decide) rfl g rfl ?_
  refine r_bipush (kd204 rfl) (y := 8) (by decide) rfl ?_
  refine r_aload_n (kd204 rfl) rfl rfl ?_
  obtain ⟨g, h⟩ := h
  refine r_get0 (kd204 rfl) (by decide) rfl g rfl ?_
  refine r_iconst (kd204 rfl) (y := 1) (by decide) rfl ?_
  refine r_isub (kd204 rfl) rfl ?_
  refine r_imul (kd204 rfl) rfl ?_
  refine r_aload_n (kd204 rfl) rfl rfl ?_
  obtain ⟨g, h⟩ := h
  refine r_get2 (kd204 rfl) (by decide) rfl g rfl ?_
  refine r_aload_n (kd204 rfl) rfl rfl ?_
  obtain ⟨g, h⟩ := h
  refine r_get0 (kd204 rfl) (by decide) rfl g rfl ?_
  refine r_iconst (kd204 rfl) (y := 1) (by decide) rfl ?_
  refine r_isub (kd204 rfl) rfl ?_
  obtain ⟨g, h⟩ := h
  refine r_iaload (kd204 rfl) g rfl ?_
  refine r_iadd (kd204 rfl) rfl ?_
  refine r_iload_n (kd204 rfl) rfl rfl ?_
  refine r_isub (kd204 rfl) rfl ?_
  obtain ⟨g, h⟩ := h
  refine r_iaload (kd204 rfl) g rfl ?_
  exact r_ireturn (kd204 rfl) R204 h
/-- TierMillModel.jump(I)V -/
theorem kd205 {pc : Nat} {q : eI} (h : e_d205.lookup pc = some q) : e_dec 205 pc = some q := h
theorem L205 : (e_m 205).2.2.1 = 3 := rfl
theorem R205 : (e_m 205).2.2.2.1 = none := rfl
def w_Mod_jump_41 (l0 : Nat) (l1 : Int32) (l2 : Int32) (M : eM) (Q : eM → Prop) : Prop := e_ob M l0 12 ∧ e_ar M (gr M l0 62) 20 l2 ∧ ∀ M2 : eM, M2 = e_si M (gr M l0 62) l2.toNatClampNeg l1 → Q M2
theorem b_Mod_jump_41 {d : Nat} {l0 : Nat} {l1 : Int32} {l2 : Int32} {M : eM} {Q : eM → Prop} (hd : 0 ≤ d) (h : w_Mod_jump_41 l0 l1 l2 M Q ) : e_E 205 d 0 0 41 [(0, .ref l0), (1, .int l1), (2, .int l2)] [] M (e_QV Q) := by
  unfold w_Mod_jump_41 at h
  refine r_aload_n (kd205 rfl) rfl rfl ?_
  obtain ⟨g, h⟩ := h
  refine r_get2 (kd205 rfl) (by decide) rfl g rfl ?_
  refine r_iload_n (kd205 rfl) rfl rfl ?_
  refine r_iload_n (kd205 rfl) rfl rfl ?_
  obtain ⟨g, h⟩ := h
  have h := h _ rfl
  refine r_iastore (kd205 rfl) g rfl ?_
  exact r_return (kd205 rfl) R205 h
def w_Mod_jump (l0 : Nat) (l1 : Int32) (M : eM) (Q : eM → Prop) : Prop := e_ob M l0 12 ∧ e_ob M l0 12 ∧ e_ai M (gr M l0 64) ((gi M l0 60) - 1) ∧ (¬ (gi M (gr M l0 64) ((gi M l0 60) - 1).toNatClampNeg) = 0 → w_Mod_jump_41 l0 l1 ((gi M l0 60) - 1) M Q) ∧ ((gi M (gr M l0 64) ((gi M l0 60) - 1).toNatClampNeg) = 0 → e_ob M l0 12 ∧ e_ai M (gr M l0 62) ((gi M l0 60) - 1) ∧ ((gi M (gr M l0 62) ((gi M l0 60) - 1).toNatClampNeg) < l1 → w_Mod_jump_41 l0 l1 ((gi M l0 60) - 1) M Q) ∧ (¬ (gi M (gr M l0 62) ((gi M l0 60) - 1).toNatClampNeg) < l1 → e_ob M l0 12 ∧ e_ob M l0 12 ∧ e_ai M (gr M l0 61) ((gi M l0 60) - 1) ∧ e_ai M (gr M l0 49) (gi M (gr M l0 61) ((gi M l0 60) - 1).toNatClampNeg) ∧ e_ar M (gr M l0 49) 20 (gi M (gr M l0 61) ((gi M l0 60) - 1).toNatClampNeg) ∧ ∀ M1 : eM, M1 = e_si M (gr M l0 49) (gi M (gr M l0 61) ((gi M l0 60) - 1).toNatClampNeg).toNatClampNeg ((gi M (gr M l0 49) (gi M (gr M l0 61) ((gi M l0 60) - 1).toNatClampNeg).toNatClampNeg) + 1) → w_Mod_jump_41 l0 l1 ((gi M l0 60) - 1) M1 Q))
theorem b_Mod_jump {d : Nat} {l0 : Nat} {l1 : Int32} {M : eM} {Q : eM → Prop} (hd : 0 ≤ d) (h : w_Mod_jump l0 l1 M Q) : e_CV 205 d 0 0 [.ref l0, .int l1] M Q := by
  unfold w_Mod_jump at h
  show e_E 205 d 0 0 0 [(0, .ref l0), (1, .int l1)] [] M (e_QV Q)
  refine r_aload_n (kd205 rfl) rfl rfl ?_
  obtain ⟨g, h⟩ := h
  refine r_get0 (kd205 rfl) (by decide) rfl g rfl ?_
  refine r_iconst (kd205 rfl) (y := 1) (by decide) rfl ?_
  refine r_isub (kd205 rfl) rfl ?_
  refine r_istore_n (kd205 rfl) L205 (by decide) rfl rfl ?_
  refine r_aload_n (kd205 rfl) rfl rfl ?_
  obtain ⟨g, h⟩ := h
  refine r_get2 (kd205 rfl) (by decide) rfl g rfl ?_
  refine r_iload_n (kd205 rfl) rfl rfl ?_
  obtain ⟨g, h⟩ := h
  refine r_iaload (kd205 rfl) g rfl ?_
  refine r_if_ne (kd205 rfl) rfl (fun c => ?_) (fun c => ?_)
  · have h := h.1 c
    exact (b_Mod_jump_41 hd h).less (e_sc (List.mem_of_getElem? (i := 1) rfl) (e_sc (List.mem_of_getElem? (i := 2) rfl) (e_sc (List.mem_of_getElem? (i := 0) rfl) e_sn)))
  · have h := h.2 c
    refine r_iload_n (kd205 rfl) rfl rfl ?_
    refine r_aload_n (kd205 rfl) rfl rfl ?_
    obtain ⟨g, h⟩ := h
    refine r_get2 (kd205 rfl) (by decide) rfl g rfl ?_
    refine r_iload_n (kd205 rfl) rfl rfl ?_
    obtain ⟨g, h⟩ := h
    refine r_iaload (kd205 rfl) g rfl ?_
    refine r_icmp_gt (kd205 rfl) rfl (fun c => ?_) (fun c => ?_)
    · have h := h.1 c
      exact (b_Mod_jump_41 hd h).less (e_sc (List.mem_of_getElem? (i := 1) rfl) (e_sc (List.mem_of_getElem? (i := 2) rfl) (e_sc (List.mem_of_getElem? (i := 0) rfl) e_sn)))
    · have h := h.2 c
      refine r_aload_n (kd205 rfl) rfl rfl ?_
      obtain ⟨g, h⟩ := h
      refine r_get2 (kd205 rfl) (by decide) rfl g rfl ?_
      refine r_aload_n (kd205 rfl) rfl rfl ?_
      obtain ⟨g, h⟩ := h
      refine r_get2 (kd205 rfl) (by decide) rfl g rfl ?_
      refine r_iload_n (kd205 rfl) rfl rfl ?_
      obtain ⟨g, h⟩ := h
      refine r_iaload (kd205 rfl) g rfl ?_
      refine r_dup2 (kd205 rfl) rfl rfl rfl ?_
      obtain ⟨g, h⟩ := h
      refine r_iaload (kd205 rfl) g rfl ?_
      refine r_iconst (kd205 rfl) (y := 1) (by decide) rfl ?_
      refine r_iadd (kd205 rfl) rfl ?_
      obtain ⟨g, h⟩ := h
      have h := h _ rfl
      refine r_iastore (kd205 rfl) g rfl ?_
      exact (b_Mod_jump_41 hd h).less (e_sc (List.mem_of_getElem? (i := 1) rfl) (e_sc (List.mem_of_getElem? (i := 2) rfl) (e_sc (List.mem_of_getElem? (i := 0) rfl) e_sn)))
/-- TierMillModel.reckon(III)I -/
theorem kd206 {pc : Nat} {q : eI} (h : e_d206.lookup pc = some q) : e_dec 206 pc = some q := h
theorem L206 : (e_m 206).2.2.1 = 3 := rfl
theorem R206 : (e_m 206).2.2.2.1 = (some .int) := rfl
def w_Mod_reckon_81 (s0 : Int32) (M : eM) (Q : Int32 → eM → Prop) : Prop := Q s0 M
theorem b_Mod_reckon_81 {d : Nat} {s0 : Int32} {M : eM} {Q : Int32 → eM → Prop} (hd : 0 ≤ d) (h : w_Mod_reckon_81 s0 M Q ) : e_E 206 d 0 0 81 [] [.int s0] M (e_QI Q) := by
  unfold w_Mod_reckon_81 at h
  exact r_ireturn (kd206 rfl) R206 h
def w_Mod_reckon_94 (s0 : Int32) (M : eM) (Q : Int32 → eM → Prop) : Prop := Q s0 M
theorem b_Mod_reckon_94 {d : Nat} {s0 : Int32} {M : eM} {Q : Int32 → eM → Prop} (hd : 0 ≤ d) (h : w_Mod_reckon_94 s0 M Q ) : e_E 206 d 0 0 94 [] [.int s0] M (e_QI Q) := by
  unfold w_Mod_reckon_94 at h
  exact r_ireturn (kd206 rfl) R206 h
def w_Mod_reckon (l0 : Int32) (l1 : Int32) (l2 : Int32) (M : eM) (Q : Int32 → eM → Prop) : Prop := (l0 = 8 → Q (l1 + l2) M) ∧ (¬ l0 = 8 → (l0 = 9 → Q (l1 - l2) M) ∧ (¬ l0 = 9 → (l0 = 10 → Q (l1 * l2) M) ∧ (¬ l0 = 10 → (l0 = 11 → (¬ l2 = (-1) → ¬ l2 = 0 ∧ w_Mod_reckon_81 (l1 / l2) M Q) ∧ (l2 = (-1) → w_Mod_reckon_81 (-l1) M Q)) ∧ (¬ l0 = 11 → (l0 = 12 → (¬ l2 = (-1) → ¬ l2 = 0 ∧ w_Mod_reckon_94 (l1 - l1 / l2 * l2) M Q) ∧ (l2 = (-1) → w_Mod_reckon_94 0 M Q)) ∧ (¬ l0 = 12 → (l0 = 13 → Q (l1 &&& l2) M) ∧ (¬ l0 = 13 → (l0 = 14 → Q (l1 ||| l2) M) ∧ (¬ l0 = 14 → (l0 = 15 → Q (l1 ^^^ l2) M) ∧ (¬ l0 = 15 → (l0 = 16 → Q (l1 <<< ((l2 &&& 31) &&& 31)) M) ∧ (¬ l0 = 16 → (l0 = 17 → Q (l1 >>> ((l2 &&& 31) &&& 31)) M) ∧ (¬ l0 = 17 → Q ((l1.toUInt32 >>> ((l2 &&& 31).toUInt32 &&& Int32.toUInt32 31)).toInt32) M))))))))))
theorem b_Mod_reckon {d : Nat} {l0 : Int32} {l1 : Int32} {l2 : Int32} {M : eM} {Q : Int32 → eM → Prop} (hd : 0 ≤ d) (h : w_Mod_reckon l0 l1 l2 M Q) : e_CI 206 d 0 0 [.int l0, .int l1, .int l2] M Q := by
  unfold w_Mod_reckon at h
  show e_E 206 d 0 0 0 [(0, .int l0), (1, .int l1), (2, .int l2)] [] M (e_QI Q)
  refine r_iload_n (kd206 rfl) rfl rfl ?_
  refine r_tableswitch (kd206 rfl) (u := 121) (qs := [(8, 56), (9, 60), (10, 64), (11, 68), (12, 82), (13, 95), (14, 99), (15, 103), (16, 107), (17, 114)]) rfl rfl rfl (by decide) ?_
  refine ⟨fun c => ?_, fun c => ?_⟩
  · have h := h.1 c
    refine r_iload_n (kd206 rfl) rfl rfl ?_
    refine r_iload_n (kd206 rfl) rfl rfl ?_
    refine r_iadd (kd206 rfl) rfl ?_
    exact r_ireturn (kd206 rfl) R206 h
  have h := h.2 c
  refine ⟨fun c => ?_, fun c => ?_⟩
  · have h := h.1 c
    refine r_iload_n (kd206 rfl) rfl rfl ?_
    refine r_iload_n (kd206 rfl) rfl rfl ?_
    refine r_isub (kd206 rfl) rfl ?_
    exact r_ireturn (kd206 rfl) R206 h
  have h := h.2 c
  refine ⟨fun c => ?_, fun c => ?_⟩
  · have h := h.1 c
    refine r_iload_n (kd206 rfl) rfl rfl ?_
    refine r_iload_n (kd206 rfl) rfl rfl ?_
    refine r_imul (kd206 rfl) rfl ?_
    exact r_ireturn (kd206 rfl) R206 h
  have h := h.2 c
  refine ⟨fun c => ?_, fun c => ?_⟩
  · have h := h.1 c
    refine r_iload_n (kd206 rfl) rfl rfl ?_
    refine r_iconst (kd206 rfl) (y := (-1)) (by decide) rfl ?_
    refine r_icmp_ne (kd206 rfl) rfl (fun c => ?_) (fun c => ?_)
    · have h := h.1 c
      refine r_iload_n (kd206 rfl) rfl rfl ?_
      refine r_iload_n (kd206 rfl) rfl rfl ?_
      obtain ⟨g, h⟩ := h
      refine r_idiv (kd206 rfl) g rfl ?_
      exact (b_Mod_reckon_81 hd h).less e_sn
    · have h := h.2 c
      refine r_iload_n (kd206 rfl) rfl rfl ?_
      refine r_ineg (kd206 rfl) rfl ?_
      refine r_goto (kd206 rfl) ?_
      exact (b_Mod_reckon_81 hd h).less e_sn
  have h := h.2 c
  refine ⟨fun c => ?_, fun c => ?_⟩
  · have h := h.1 c
    refine r_iload_n (kd206 rfl) rfl rfl ?_
    refine r_iconst (kd206 rfl) (y := (-1)) (by decide) rfl ?_
    refine r_icmp_ne (kd206 rfl) rfl (fun c => ?_) (fun c => ?_)
    · have h := h.1 c
      refine r_iload_n (kd206 rfl) rfl rfl ?_
      refine r_iload_n (kd206 rfl) rfl rfl ?_
      obtain ⟨g, h⟩ := h
      refine r_irem (kd206 rfl) g rfl ?_
      exact (b_Mod_reckon_94 hd h).less e_sn
    · have h := h.2 c
      refine r_iconst (kd206 rfl) (y := 0) (by decide) rfl ?_
      refine r_goto (kd206 rfl) ?_
      exact (b_Mod_reckon_94 hd h).less e_sn
  have h := h.2 c
  refine ⟨fun c => ?_, fun c => ?_⟩
  · have h := h.1 c
    refine r_iload_n (kd206 rfl) rfl rfl ?_
    refine r_iload_n (kd206 rfl) rfl rfl ?_
    refine r_iand (kd206 rfl) rfl ?_
    exact r_ireturn (kd206 rfl) R206 h
  have h := h.2 c
  refine ⟨fun c => ?_, fun c => ?_⟩
  · have h := h.1 c
    refine r_iload_n (kd206 rfl) rfl rfl ?_
    refine r_iload_n (kd206 rfl) rfl rfl ?_
    refine r_ior (kd206 rfl) rfl ?_
    exact r_ireturn (kd206 rfl) R206 h
  have h := h.2 c
  refine ⟨fun c => ?_, fun c => ?_⟩
  · have h := h.1 c
    refine r_iload_n (kd206 rfl) rfl rfl ?_
    refine r_iload_n (kd206 rfl) rfl rfl ?_
    refine r_ixor (kd206 rfl) rfl ?_
    exact r_ireturn (kd206 rfl) R206 h
  have h := h.2 c
  refine ⟨fun c => ?_, fun c => ?_⟩
  · have h := h.1 c
    refine r_iload_n (kd206 rfl) rfl rfl ?_
    refine r_iload_n (kd206 rfl) rfl rfl ?_
    refine r_bipush (kd206 rfl) (y := 31) (by decide) rfl ?_
    refine r_iand (kd206 rfl) rfl ?_
    refine r_ishl (kd206 rfl) rfl ?_
    exact r_ireturn (kd206 rfl) R206 h
  have h := h.2 c
  refine ⟨fun c => ?_, fun c => ?_⟩
  · have h := h.1 c
    refine r_iload_n (kd206 rfl) rfl rfl ?_
    refine r_iload_n (kd206 rfl) rfl rfl ?_
    refine r_bipush (kd206 rfl) (y := 31) (by decide) rfl ?_
    refine r_iand (kd206 rfl) rfl ?_
    refine r_ishr (kd206 rfl) rfl ?_
    exact r_ireturn (kd206 rfl) R206 h
  have h := h.2 c
  show e_E 206 _ _ _ 121 _ _ _ _
  refine r_iload_n (kd206 rfl) rfl rfl ?_
  refine r_iload_n (kd206 rfl) rfl rfl ?_
  refine r_bipush (kd206 rfl) (y := 31) (by decide) rfl ?_
  refine r_iand (kd206 rfl) rfl ?_
  refine r_iushr (kd206 rfl) rfl ?_
  exact r_ireturn (kd206 rfl) R206 h
/-- TierMillModel.compares(III)Z -/
theorem kd207 {pc : Nat} {q : eI} (h : e_d207.lookup pc = some q) : e_dec 207 pc = some q := h
theorem L207 : (e_m 207).2.2.1 = 3 := rfl
theorem R207 : (e_m 207).2.2.2.1 = (some .boolean) := rfl
def w_Mod_compares_46 (s0 : Int32) (M : eM) (Q : Int32 → eM → Prop) : Prop := (s0 = 0 ∨ s0 = 1) ∧ Q s0 M
theorem b_Mod_compares_46 {d : Nat} {s0 : Int32} {M : eM} {Q : Int32 → eM → Prop} (hd : 0 ≤ d) (h : w_Mod_compares_46 s0 M Q ) : e_E 207 d 0 0 46 [] [.int s0] M (e_QI Q) := by
  unfold w_Mod_compares_46 at h
  exact r_zreturn (kd207 rfl) R207 h.1 h.2
def w_Mod_compares_57 (s0 : Int32) (M : eM) (Q : Int32 → eM → Prop) : Prop := (s0 = 0 ∨ s0 = 1) ∧ Q s0 M
theorem b_Mod_compares_57 {d : Nat} {s0 : Int32} {M : eM} {Q : Int32 → eM → Prop} (hd : 0 ≤ d) (h : w_Mod_compares_57 s0 M Q ) : e_E 207 d 0 0 57 [] [.int s0] M (e_QI Q) := by
  unfold w_Mod_compares_57 at h
  exact r_zreturn (kd207 rfl) R207 h.1 h.2
def w_Mod_compares_68 (s0 : Int32) (M : eM) (Q : Int32 → eM → Prop) : Prop := (s0 = 0 ∨ s0 = 1) ∧ Q s0 M
theorem b_Mod_compares_68 {d : Nat} {s0 : Int32} {M : eM} {Q : Int32 → eM → Prop} (hd : 0 ≤ d) (h : w_Mod_compares_68 s0 M Q ) : e_E 207 d 0 0 68 [] [.int s0] M (e_QI Q) := by
  unfold w_Mod_compares_68 at h
  exact r_zreturn (kd207 rfl) R207 h.1 h.2
def w_Mod_compares_79 (s0 : Int32) (M : eM) (Q : Int32 → eM → Prop) : Prop := (s0 = 0 ∨ s0 = 1) ∧ Q s0 M
theorem b_Mod_compares_79 {d : Nat} {s0 : Int32} {M : eM} {Q : Int32 → eM → Prop} (hd : 0 ≤ d) (h : w_Mod_compares_79 s0 M Q ) : e_E 207 d 0 0 79 [] [.int s0] M (e_QI Q) := by
  unfold w_Mod_compares_79 at h
  exact r_zreturn (kd207 rfl) R207 h.1 h.2
def w_Mod_compares_90 (s0 : Int32) (M : eM) (Q : Int32 → eM → Prop) : Prop := (s0 = 0 ∨ s0 = 1) ∧ Q s0 M
theorem b_Mod_compares_90 {d : Nat} {s0 : Int32} {M : eM} {Q : Int32 → eM → Prop} (hd : 0 ≤ d) (h : w_Mod_compares_90 s0 M Q ) : e_E 207 d 0 0 90 [] [.int s0] M (e_QI Q) := by
  unfold w_Mod_compares_90 at h
  exact r_zreturn (kd207 rfl) R207 h.1 h.2
def w_Mod_compares_101 (s0 : Int32) (M : eM) (Q : Int32 → eM → Prop) : Prop := (s0 = 0 ∨ s0 = 1) ∧ Q s0 M
theorem b_Mod_compares_101 {d : Nat} {s0 : Int32} {M : eM} {Q : Int32 → eM → Prop} (hd : 0 ≤ d) (h : w_Mod_compares_101 s0 M Q ) : e_E 207 d 0 0 101 [] [.int s0] M (e_QI Q) := by
  unfold w_Mod_compares_101 at h
  exact r_zreturn (kd207 rfl) R207 h.1 h.2
def w_Mod_compares (l0 : Int32) (l1 : Int32) (l2 : Int32) (M : eM) (Q : Int32 → eM → Prop) : Prop := (l0 = 0 → (¬ l1 = l2 → w_Mod_compares_46 0 M Q) ∧ (l1 = l2 → w_Mod_compares_46 1 M Q)) ∧ (¬ l0 = 0 → (l0 = 1 → (l1 = l2 → w_Mod_compares_57 0 M Q) ∧ (¬ l1 = l2 → w_Mod_compares_57 1 M Q)) ∧ (¬ l0 = 1 → (l0 = 2 → (l2 ≤ l1 → w_Mod_compares_68 0 M Q) ∧ (¬ l2 ≤ l1 → w_Mod_compares_68 1 M Q)) ∧ (¬ l0 = 2 → (l0 = 3 → (l1 < l2 → w_Mod_compares_79 0 M Q) ∧ (¬ l1 < l2 → w_Mod_compares_79 1 M Q)) ∧ (¬ l0 = 3 → (l0 = 4 → (l1 ≤ l2 → w_Mod_compares_90 0 M Q) ∧ (¬ l1 ≤ l2 → w_Mod_compares_90 1 M Q)) ∧ (¬ l0 = 4 → (l2 < l1 → w_Mod_compares_101 0 M Q) ∧ (¬ l2 < l1 → w_Mod_compares_101 1 M Q))))))
theorem b_Mod_compares {d : Nat} {l0 : Int32} {l1 : Int32} {l2 : Int32} {M : eM} {Q : Int32 → eM → Prop} (hd : 0 ≤ d) (h : w_Mod_compares l0 l1 l2 M Q) : e_CI 207 d 0 0 [.int l0, .int l1, .int l2] M Q := by
  unfold w_Mod_compares at h
  show e_E 207 d 0 0 0 [(0, .int l0), (1, .int l1), (2, .int l2)] [] M (e_QI Q)
  refine r_iload_n (kd207 rfl) rfl rfl ?_
  refine r_tableswitch (kd207 rfl) (u := 91) (qs := [(0, 36), (1, 47), (2, 58), (3, 69), (4, 80)]) rfl rfl rfl (by decide) ?_
  refine ⟨fun c => ?_, fun c => ?_⟩
  · have h := h.1 c
    refine r_iload_n (kd207 rfl) rfl rfl ?_
    refine r_iload_n (kd207 rfl) rfl rfl ?_
    refine r_icmp_ne (kd207 rfl) rfl (fun c => ?_) (fun c => ?_)
    · have h := h.1 c
      refine r_iconst (kd207 rfl) (y := 0) (by decide) rfl ?_
      exact (b_Mod_compares_46 hd h).less e_sn
    · have h := h.2 c
      refine r_iconst (kd207 rfl) (y := 1) (by decide) rfl ?_
      refine r_goto (kd207 rfl) ?_
      exact (b_Mod_compares_46 hd h).less e_sn
  have h := h.2 c
  refine ⟨fun c => ?_, fun c => ?_⟩
  · have h := h.1 c
    refine r_iload_n (kd207 rfl) rfl rfl ?_
    refine r_iload_n (kd207 rfl) rfl rfl ?_
    refine r_icmp_eq (kd207 rfl) rfl (fun c => ?_) (fun c => ?_)
    · have h := h.1 c
      refine r_iconst (kd207 rfl) (y := 0) (by decide) rfl ?_
      exact (b_Mod_compares_57 hd h).less e_sn
    · have h := h.2 c
      refine r_iconst (kd207 rfl) (y := 1) (by decide) rfl ?_
      refine r_goto (kd207 rfl) ?_
      exact (b_Mod_compares_57 hd h).less e_sn
  have h := h.2 c
  refine ⟨fun c => ?_, fun c => ?_⟩
  · have h := h.1 c
    refine r_iload_n (kd207 rfl) rfl rfl ?_
    refine r_iload_n (kd207 rfl) rfl rfl ?_
    refine r_icmp_ge (kd207 rfl) rfl (fun c => ?_) (fun c => ?_)
    · have h := h.1 c
      refine r_iconst (kd207 rfl) (y := 0) (by decide) rfl ?_
      exact (b_Mod_compares_68 hd h).less e_sn
    · have h := h.2 c
      refine r_iconst (kd207 rfl) (y := 1) (by decide) rfl ?_
      refine r_goto (kd207 rfl) ?_
      exact (b_Mod_compares_68 hd h).less e_sn
  have h := h.2 c
  refine ⟨fun c => ?_, fun c => ?_⟩
  · have h := h.1 c
    refine r_iload_n (kd207 rfl) rfl rfl ?_
    refine r_iload_n (kd207 rfl) rfl rfl ?_
    refine r_icmp_lt (kd207 rfl) rfl (fun c => ?_) (fun c => ?_)
    · have h := h.1 c
      refine r_iconst (kd207 rfl) (y := 0) (by decide) rfl ?_
      exact (b_Mod_compares_79 hd h).less e_sn
    · have h := h.2 c
      refine r_iconst (kd207 rfl) (y := 1) (by decide) rfl ?_
      refine r_goto (kd207 rfl) ?_
      exact (b_Mod_compares_79 hd h).less e_sn
  have h := h.2 c
  refine ⟨fun c => ?_, fun c => ?_⟩
  · have h := h.1 c
    refine r_iload_n (kd207 rfl) rfl rfl ?_
    refine r_iload_n (kd207 rfl) rfl rfl ?_
    refine r_icmp_le (kd207 rfl) rfl (fun c => ?_) (fun c => ?_)
    · have h := h.1 c
      refine r_iconst (kd207 rfl) (y := 0) (by decide) rfl ?_
      exact (b_Mod_compares_90 hd h).less e_sn
    · have h := h.2 c
      refine r_iconst (kd207 rfl) (y := 1) (by decide) rfl ?_
      refine r_goto (kd207 rfl) ?_
      exact (b_Mod_compares_90 hd h).less e_sn
  have h := h.2 c
  show e_E 207 _ _ _ 91 _ _ _ _
  refine r_iload_n (kd207 rfl) rfl rfl ?_
  refine r_iload_n (kd207 rfl) rfl rfl ?_
  refine r_icmp_gt (kd207 rfl) rfl (fun c => ?_) (fun c => ?_)
  · have h := h.1 c
    refine r_iconst (kd207 rfl) (y := 0) (by decide) rfl ?_
    exact (b_Mod_compares_101 hd h).less e_sn
  · have h := h.2 c
    refine r_iconst (kd207 rfl) (y := 1) (by decide) rfl ?_
    refine r_goto (kd207 rfl) ?_
    exact (b_Mod_compares_101 hd h).less e_sn
/-- TierMillModel.holds(I)Z -/
theorem kd208 {pc : Nat} {q : eI} (h : e_d208.lookup pc = some q) : e_dec 208 pc = some q := h
theorem L208 : (e_m 208).2.2.1 = 4 := rfl
theorem R208 : (e_m 208).2.2.2.1 = (some .boolean) := rfl
def w_Mod_holds_90 (s0 : Int32) (M : eM) (Q : Int32 → eM → Prop) : Prop := (s0 = 0 ∨ s0 = 1) ∧ Q s0 M
theorem b_Mod_holds_90 {d : Nat} {s0 : Int32} {M : eM} {Q : Int32 → eM → Prop} (hd : 1 ≤ d) (h : w_Mod_holds_90 s0 M Q ) : e_E 208 d 0 0 90 [] [.int s0] M (e_QI Q) := by
  unfold w_Mod_holds_90 at h
  exact r_zreturn (kd208 rfl) R208 h.1 h.2
def w_Mod_holds_82 (s0 : Int32) (s1 : Int32) (M : eM) (Q : Int32 → eM → Prop) : Prop := (¬ s1 = s0 → w_Mod_holds_90 0 M Q) ∧ (s1 = s0 → w_Mod_holds_90 1 M Q)
theorem b_Mod_holds_82 {d : Nat} {s0 : Int32} {s1 : Int32} {M : eM} {Q : Int32 → eM → Prop} (hd : 1 ≤ d) (h : w_Mod_holds_82 s0 s1 M Q ) : e_E 208 d 0 0 82 [] [.int s0, .int s1] M (e_QI Q) := by
  unfold w_Mod_holds_82 at h
  refine r_icmp_ne (kd208 rfl) rfl (fun c => ?_) (fun c => ?_)
  · have h := h.1 c
    refine r_iconst (kd208 rfl) (y := 0) (by decide) rfl ?_
    exact (b_Mod_holds_90 hd h).less e_sn
  · have h := h.2 c
    refine r_iconst (kd208 rfl) (y := 1) (by decide) rfl ?_
    refine r_goto (kd208 rfl) ?_
    exact (b_Mod_holds_90 hd h).less e_sn
def w_Mod_holds_71 (l1 : Int32) (s0 : Int32) (M : eM) (Q : Int32 → eM → Prop) : Prop := (¬ l1 = 34 → w_Mod_holds_82 0 s0 M Q) ∧ (l1 = 34 → w_Mod_holds_82 1 s0 M Q)
theorem b_Mod_holds_71 {d : Nat} {l1 : Int32} {s0 : Int32} {M : eM} {Q : Int32 → eM → Prop} (hd : 1 ≤ d) (h : w_Mod_holds_71 l1 s0 M Q ) : e_E 208 d 0 0 71 [(1, .int l1)] [.int s0] M (e_QI Q) := by
  unfold w_Mod_holds_71 at h
  refine r_iload_n (kd208 rfl) rfl rfl ?_
  refine r_bipush (kd208 rfl) (y := 34) (by decide) rfl ?_
  refine r_icmp_ne (kd208 rfl) rfl (fun c => ?_) (fun c => ?_)
  · have h := h.1 c
    refine r_iconst (kd208 rfl) (y := 0) (by decide) rfl ?_
    exact (b_Mod_holds_82 hd h).less e_sn
  · have h := h.2 c
    refine r_iconst (kd208 rfl) (y := 1) (by decide) rfl ?_
    refine r_goto (kd208 rfl) ?_
    exact (b_Mod_holds_82 hd h).less e_sn
def w_Mod_holds_130 (s0 : Int32) (M : eM) (Q : Int32 → eM → Prop) : Prop := (s0 = 0 ∨ s0 = 1) ∧ Q s0 M
theorem b_Mod_holds_130 {d : Nat} {s0 : Int32} {M : eM} {Q : Int32 → eM → Prop} (hd : 1 ≤ d) (h : w_Mod_holds_130 s0 M Q ) : e_E 208 d 0 0 130 [] [.int s0] M (e_QI Q) := by
  unfold w_Mod_holds_130 at h
  exact r_zreturn (kd208 rfl) R208 h.1 h.2
def w_Mod_holds_122 (s0 : Int32) (s1 : Int32) (M : eM) (Q : Int32 → eM → Prop) : Prop := (¬ s1 = s0 → w_Mod_holds_130 0 M Q) ∧ (s1 = s0 → w_Mod_holds_130 1 M Q)
theorem b_Mod_holds_122 {d : Nat} {s0 : Int32} {s1 : Int32} {M : eM} {Q : Int32 → eM → Prop} (hd : 1 ≤ d) (h : w_Mod_holds_122 s0 s1 M Q ) : e_E 208 d 0 0 122 [] [.int s0, .int s1] M (e_QI Q) := by
  unfold w_Mod_holds_122 at h
  refine r_icmp_ne (kd208 rfl) rfl (fun c => ?_) (fun c => ?_)
  · have h := h.1 c
    refine r_iconst (kd208 rfl) (y := 0) (by decide) rfl ?_
    exact (b_Mod_holds_130 hd h).less e_sn
  · have h := h.2 c
    refine r_iconst (kd208 rfl) (y := 1) (by decide) rfl ?_
    refine r_goto (kd208 rfl) ?_
    exact (b_Mod_holds_130 hd h).less e_sn
def w_Mod_holds_111 (l1 : Int32) (s0 : Int32) (M : eM) (Q : Int32 → eM → Prop) : Prop := (¬ l1 = 36 → w_Mod_holds_122 0 s0 M Q) ∧ (l1 = 36 → w_Mod_holds_122 1 s0 M Q)
theorem b_Mod_holds_111 {d : Nat} {l1 : Int32} {s0 : Int32} {M : eM} {Q : Int32 → eM → Prop} (hd : 1 ≤ d) (h : w_Mod_holds_111 l1 s0 M Q ) : e_E 208 d 0 0 111 [(1, .int l1)] [.int s0] M (e_QI Q) := by
  unfold w_Mod_holds_111 at h
  refine r_iload_n (kd208 rfl) rfl rfl ?_
  refine r_bipush (kd208 rfl) (y := 36) (by decide) rfl ?_
  refine r_icmp_ne (kd208 rfl) rfl (fun c => ?_) (fun c => ?_)
  · have h := h.1 c
    refine r_iconst (kd208 rfl) (y := 0) (by decide) rfl ?_
    exact (b_Mod_holds_122 hd h).less e_sn
  · have h := h.2 c
    refine r_iconst (kd208 rfl) (y := 1) (by decide) rfl ?_
    refine r_goto (kd208 rfl) ?_
    exact (b_Mod_holds_122 hd h).less e_sn
def w_Mod_holds (l0 : Nat) (l1 : Int32) (M : eM) (Q : Int32 → eM → Prop) : Prop := (¬ l1 = 21 → (27 < l1 → (33 < l1 → (35 < l1 → e_ob M l0 12 ∧ w_Mod_pop l0 M (fun (v2 : Int32) (M1 : eM) => e_ob M1 l0 12 ∧ w_Mod_pop l0 M1 (fun (v4 : Int32) (M3 : eM) => (¬ v4 = v2 → w_Mod_holds_111 l1 0 M3 Q) ∧ (v4 = v2 → w_Mod_holds_111 l1 1 M3 Q)))) ∧ (¬ 35 < l1 → e_ob M l0 12 ∧ w_Mod_pop l0 M (fun (v6 : Int32) (M5 : eM) => (¬ v6 = 0 → w_Mod_holds_71 l1 0 M5 Q) ∧ (v6 = 0 → w_Mod_holds_71 l1 1 M5 Q)))) ∧ (¬ 33 < l1 → e_ob M l0 12 ∧ w_Mod_pop l0 M (fun (v8 : Int32) (M7 : eM) => e_ob M7 l0 12 ∧ w_Mod_pop l0 M7 (fun (v10 : Int32) (M9 : eM) => w_Mod_compares (l1 - 28) v10 v8 M9 (fun (v12 : Int32) (M11 : eM) => (v12 = 0 ∨ v12 = 1) ∧ Q v12 M11))))) ∧ (¬ 27 < l1 → e_ob M l0 12 ∧ w_Mod_pop l0 M (fun (v14 : Int32) (M13 : eM) => w_Mod_compares (l1 - 22) v14 0 M13 (fun (v16 : Int32) (M15 : eM) => (v16 = 0 ∨ v16 = 1) ∧ Q v16 M15)))) ∧ (l1 = 21 → ((1 : Int32) = 0 ∨ (1 : Int32) = 1) ∧ Q (1 : Int32) M)
theorem b_Mod_holds {d : Nat} {l0 : Nat} {l1 : Int32} {M : eM} {Q : Int32 → eM → Prop} (hd : 1 ≤ d) (h : w_Mod_holds l0 l1 M Q) : e_CI 208 d 0 0 [.ref l0, .int l1] M Q := by
  unfold w_Mod_holds at h
  show e_E 208 d 0 0 0 [(0, .ref l0), (1, .int l1)] [] M (e_QI Q)
  refine r_iload_n (kd208 rfl) rfl rfl ?_
  refine r_bipush (kd208 rfl) (y := 21) (by decide) rfl ?_
  refine r_icmp_ne (kd208 rfl) rfl (fun c => ?_) (fun c => ?_)
  · have h := h.1 c
    refine r_iload_n (kd208 rfl) rfl rfl ?_
    refine r_bipush (kd208 rfl) (y := 27) (by decide) rfl ?_
    refine r_icmp_gt (kd208 rfl) rfl (fun c => ?_) (fun c => ?_)
    · have h := h.1 c
      refine r_iload_n (kd208 rfl) rfl rfl ?_
      refine r_bipush (kd208 rfl) (y := 33) (by decide) rfl ?_
      refine r_icmp_gt (kd208 rfl) rfl (fun c => ?_) (fun c => ?_)
      · have h := h.1 c
        refine r_iload_n (kd208 rfl) rfl rfl ?_
        refine r_bipush (kd208 rfl) (y := 35) (by decide) rfl ?_
        refine r_icmp_gt (kd208 rfl) rfl (fun c => ?_) (fun c => ?_)
        · have h := h.1 c
          refine r_aload_n (kd208 rfl) rfl rfl ?_
          obtain ⟨g, h⟩ := h
          refine r_callVI (d' := d - 1) (by omega) (kd208 rfl) (by decide) rfl rfl rfl rfl (Nat.le_of_ble_eq_true rfl) rfl L202 (Nat.le_of_ble_eq_true rfl) (Nat.le_of_ble_eq_true rfl) g (Nat.zero_le _) (Nat.zero_le _) rfl rfl rfl (b_Mod_pop (by omega) h) (fun x1 M1 h => ?_)
          refine r_istore_n (kd208 rfl) L208 (by decide) rfl rfl ?_
          refine r_aload_n (kd208 rfl) rfl rfl ?_
          obtain ⟨g, h⟩ := h
          refine r_callVI (d' := d - 1) (by omega) (kd208 rfl) (by decide) rfl rfl rfl rfl (Nat.le_of_ble_eq_true rfl) rfl L202 (Nat.le_of_ble_eq_true rfl) (Nat.le_of_ble_eq_true rfl) g (Nat.zero_le _) (Nat.zero_le _) rfl rfl rfl (b_Mod_pop (by omega) h) (fun x1 M1 h => ?_)
          refine r_istore_n (kd208 rfl) L208 (by decide) rfl rfl ?_
          refine r_iload_n (kd208 rfl) rfl rfl ?_
          refine r_iload_n (kd208 rfl) rfl rfl ?_
          refine r_icmp_ne (kd208 rfl) rfl (fun c => ?_) (fun c => ?_)
          · have h := h.1 c
            refine r_iconst (kd208 rfl) (y := 0) (by decide) rfl ?_
            exact (b_Mod_holds_111 hd h).less (e_sc (List.mem_of_getElem? (i := 3) rfl) e_sn)
          · have h := h.2 c
            refine r_iconst (kd208 rfl) (y := 1) (by decide) rfl ?_
            refine r_goto (kd208 rfl) ?_
            exact (b_Mod_holds_111 hd h).less (e_sc (List.mem_of_getElem? (i := 3) rfl) e_sn)
        · have h := h.2 c
          refine r_aload_n (kd208 rfl) rfl rfl ?_
          obtain ⟨g, h⟩ := h
          refine r_callVI (d' := d - 1) (by omega) (kd208 rfl) (by decide) rfl rfl rfl rfl (Nat.le_of_ble_eq_true rfl) rfl L202 (Nat.le_of_ble_eq_true rfl) (Nat.le_of_ble_eq_true rfl) g (Nat.zero_le _) (Nat.zero_le _) rfl rfl rfl (b_Mod_pop (by omega) h) (fun x1 M1 h => ?_)
          refine r_if_ne (kd208 rfl) rfl (fun c => ?_) (fun c => ?_)
          · have h := h.1 c
            refine r_iconst (kd208 rfl) (y := 0) (by decide) rfl ?_
            exact (b_Mod_holds_71 hd h).less (e_sc (List.mem_of_getElem? (i := 1) rfl) e_sn)
          · have h := h.2 c
            refine r_iconst (kd208 rfl) (y := 1) (by decide) rfl ?_
            refine r_goto (kd208 rfl) ?_
            exact (b_Mod_holds_71 hd h).less (e_sc (List.mem_of_getElem? (i := 1) rfl) e_sn)
      · have h := h.2 c
        refine r_aload_n (kd208 rfl) rfl rfl ?_
        obtain ⟨g, h⟩ := h
        refine r_callVI (d' := d - 1) (by omega) (kd208 rfl) (by decide) rfl rfl rfl rfl (Nat.le_of_ble_eq_true rfl) rfl L202 (Nat.le_of_ble_eq_true rfl) (Nat.le_of_ble_eq_true rfl) g (Nat.zero_le _) (Nat.zero_le _) rfl rfl rfl (b_Mod_pop (by omega) h) (fun x1 M1 h => ?_)
        refine r_istore_n (kd208 rfl) L208 (by decide) rfl rfl ?_
        refine r_aload_n (kd208 rfl) rfl rfl ?_
        obtain ⟨g, h⟩ := h
        refine r_callVI (d' := d - 1) (by omega) (kd208 rfl) (by decide) rfl rfl rfl rfl (Nat.le_of_ble_eq_true rfl) rfl L202 (Nat.le_of_ble_eq_true rfl) (Nat.le_of_ble_eq_true rfl) g (Nat.zero_le _) (Nat.zero_le _) rfl rfl rfl (b_Mod_pop (by omega) h) (fun x1 M1 h => ?_)
        refine r_istore_n (kd208 rfl) L208 (by decide) rfl rfl ?_
        refine r_iload_n (kd208 rfl) rfl rfl ?_
        refine r_bipush (kd208 rfl) (y := 28) (by decide) rfl ?_
        refine r_isub (kd208 rfl) rfl ?_
        refine r_iload_n (kd208 rfl) rfl rfl ?_
        refine r_iload_n (kd208 rfl) rfl rfl ?_
        refine r_callSI (d' := d - 1) (by omega) (kd208 rfl) (by decide) rfl rfl rfl rfl (Nat.le_of_ble_eq_true rfl) rfl L207 (Nat.le_of_ble_eq_true rfl) (Nat.le_of_ble_eq_true rfl) (Nat.zero_le _) (Nat.zero_le _) rfl rfl rfl (b_Mod_compares (by omega) h) (fun x1 M1 h => ?_)
        exact r_zreturn (kd208 rfl) R208 h.1 h.2
    · have h := h.2 c
      refine r_iload_n (kd208 rfl) rfl rfl ?_
      refine r_bipush (kd208 rfl) (y := 22) (by decide) rfl ?_
      refine r_isub (kd208 rfl) rfl ?_
      refine r_aload_n (kd208 rfl) rfl rfl ?_
      obtain ⟨g, h⟩ := h
      refine r_callVI (d' := d - 1) (by omega) (kd208 rfl) (by decide) rfl rfl rfl rfl (Nat.le_of_ble_eq_true rfl) rfl L202 (Nat.le_of_ble_eq_true rfl) (Nat.le_of_ble_eq_true rfl) g (Nat.zero_le _) (Nat.zero_le _) rfl rfl rfl (b_Mod_pop (by omega) h) (fun x1 M1 h => ?_)
      refine r_iconst (kd208 rfl) (y := 0) (by decide) rfl ?_
      refine r_callSI (d' := d - 1) (by omega) (kd208 rfl) (by decide) rfl rfl rfl rfl (Nat.le_of_ble_eq_true rfl) rfl L207 (Nat.le_of_ble_eq_true rfl) (Nat.le_of_ble_eq_true rfl) (Nat.zero_le _) (Nat.zero_le _) rfl rfl rfl (b_Mod_compares (by omega) h) (fun x1 M1 h => ?_)
      exact r_zreturn (kd208 rfl) R208 h.1 h.2
  · have h := h.2 c
    refine r_iconst (kd208 rfl) (y := 1) (by decide) rfl ?_
    exact r_zreturn (kd208 rfl) R208 h.1 h.2
/-- TierMillModel.trapOf(III)I -/
theorem kd209 {pc : Nat} {q : eI} (h : e_d209.lookup pc = some q) : e_dec 209 pc = some q := h
theorem L209 : (e_m 209).2.2.1 = 7 := rfl
theorem R209 : (e_m 209).2.2.2.1 = (some .int) := rfl
set_option maxRecDepth 100000 in
def w_Mod_trapOf_181 (s0 : Int32) (M : eM) (Q : Int32 → eM → Prop) : Prop := Q s0 M
set_option maxRecDepth 100000 in
theorem b_Mod_trapOf_181 {d : Nat} {s0 : Int32} {M : eM} {Q : Int32 → eM → Prop} (hd : 2 ≤ d) (h : w_Mod_trapOf_181 s0 M Q ) : e_E 209 d 0 0 181 [] [.int s0] M (e_QI Q) := by
  unfold w_Mod_trapOf_181 at h
  exact r_ireturn (kd209 rfl) R209 h
set_option maxRecDepth 100000 in
def w_Mod_trapOf_168 (l0 : Nat) (M : eM) (Q : Int32 → eM → Prop) : Prop := e_ob M l0 12 ∧ w_Mod_peek l0 1 M (fun (v30 : Int32) (M29 : eM) => (¬ v30 = 0 → w_Mod_trapOf_181 0 M29 Q) ∧ (v30 = 0 → w_Mod_trapOf_181 1 M29 Q))
set_option maxRecDepth 100000 in
theorem b_Mod_trapOf_168 {d : Nat} {l0 : Nat} {M : eM} {Q : Int32 → eM → Prop} (hd : 2 ≤ d) (h : w_Mod_trapOf_168 l0 M Q ) : e_E 209 d 0 0 168 [(0, .ref l0)] [] M (e_QI Q) := by
  unfold w_Mod_trapOf_168 at h
  refine r_aload_n (kd209 rfl) rfl rfl ?_
  refine r_iconst (kd209 rfl) (y := 1) (by decide) rfl ?_
  obtain ⟨g, h⟩ := h
  refine r_callVI (d' := d - 1) (by omega) (kd209 rfl) (by decide) rfl rfl rfl rfl (Nat.le_of_ble_eq_true rfl) rfl L204 (Nat.le_of_ble_eq_true rfl) (Nat.le_of_ble_eq_true rfl) g (Nat.zero_le _) (Nat.zero_le _) rfl rfl rfl (b_Mod_peek (by omega) h) (fun x1 M1 h => ?_)
  refine r_if_ne (kd209 rfl) rfl (fun c => ?_) (fun c => ?_)
  · have h := h.1 c
    refine r_iconst (kd209 rfl) (y := 0) (by decide) rfl ?_
    exact (b_Mod_trapOf_181 hd h).less e_sn
  · have h := h.2 c
    refine r_iconst (kd209 rfl) (y := 1) (by decide) rfl ?_
    refine r_goto (kd209 rfl) ?_
    exact (b_Mod_trapOf_181 hd h).less e_sn
set_option maxRecDepth 100000 in
def w_Mod_trapOf_195 (s0 : Int32) (M : eM) (Q : Int32 → eM → Prop) : Prop := Q s0 M
set_option maxRecDepth 100000 in
theorem b_Mod_trapOf_195 {d : Nat} {s0 : Int32} {M : eM} {Q : Int32 → eM → Prop} (hd : 2 ≤ d) (h : w_Mod_trapOf_195 s0 M Q ) : e_E 209 d 0 0 195 [] [.int s0] M (e_QI Q) := by
  unfold w_Mod_trapOf_195 at h
  exact r_ireturn (kd209 rfl) R209 h
set_option maxRecDepth 100000 in
def w_Mod_trapOf_182 (l0 : Nat) (M : eM) (Q : Int32 → eM → Prop) : Prop := e_ob M l0 12 ∧ w_Mod_peek l0 1 M (fun (v28 : Int32) (M27 : eM) => (¬ v28 = 0 → w_Mod_trapOf_195 0 M27 Q) ∧ (v28 = 0 → w_Mod_trapOf_195 2 M27 Q))
set_option maxRecDepth 100000 in
theorem b_Mod_trapOf_182 {d : Nat} {l0 : Nat} {M : eM} {Q : Int32 → eM → Prop} (hd : 2 ≤ d) (h : w_Mod_trapOf_182 l0 M Q ) : e_E 209 d 0 0 182 [(0, .ref l0)] [] M (e_QI Q) := by
  unfold w_Mod_trapOf_182 at h
  refine r_aload_n (kd209 rfl) rfl rfl ?_
  refine r_iconst (kd209 rfl) (y := 1) (by decide) rfl ?_
  obtain ⟨g, h⟩ := h
  refine r_callVI (d' := d - 1) (by omega) (kd209 rfl) (by decide) rfl rfl rfl rfl (Nat.le_of_ble_eq_true rfl) rfl L204 (Nat.le_of_ble_eq_true rfl) (Nat.le_of_ble_eq_true rfl) g (Nat.zero_le _) (Nat.zero_le _) rfl rfl rfl (b_Mod_peek (by omega) h) (fun x1 M1 h => ?_)
  refine r_if_ne (kd209 rfl) rfl (fun c => ?_) (fun c => ?_)
  · have h := h.1 c
    refine r_iconst (kd209 rfl) (y := 0) (by decide) rfl ?_
    exact (b_Mod_trapOf_195 hd h).less e_sn
  · have h := h.2 c
    refine r_iconst (kd209 rfl) (y := 2) (by decide) rfl ?_
    refine r_goto (kd209 rfl) ?_
    exact (b_Mod_trapOf_195 hd h).less e_sn
set_option maxRecDepth 100000 in
def w_Mod_trapOf_209 (s0 : Int32) (M : eM) (Q : Int32 → eM → Prop) : Prop := Q s0 M
set_option maxRecDepth 100000 in
theorem b_Mod_trapOf_209 {d : Nat} {s0 : Int32} {M : eM} {Q : Int32 → eM → Prop} (hd : 2 ≤ d) (h : w_Mod_trapOf_209 s0 M Q ) : e_E 209 d 0 0 209 [] [.int s0] M (e_QI Q) := by
  unfold w_Mod_trapOf_209 at h
  exact r_ireturn (kd209 rfl) R209 h
set_option maxRecDepth 100000 in
def w_Mod_trapOf_223 (s0 : Int32) (M : eM) (Q : Int32 → eM → Prop) : Prop := Q s0 M
set_option maxRecDepth 100000 in
theorem b_Mod_trapOf_223 {d : Nat} {s0 : Int32} {M : eM} {Q : Int32 → eM → Prop} (hd : 2 ≤ d) (h : w_Mod_trapOf_223 s0 M Q ) : e_E 209 d 0 0 223 [] [.int s0] M (e_QI Q) := by
  unfold w_Mod_trapOf_223 at h
  exact r_ireturn (kd209 rfl) R209 h
set_option maxRecDepth 100000 in
def w_Mod_trapOf_278 (s0 : Int32) (M : eM) (Q : Int32 → eM → Prop) : Prop := Q s0 M
set_option maxRecDepth 100000 in
theorem b_Mod_trapOf_278 {d : Nat} {s0 : Int32} {M : eM} {Q : Int32 → eM → Prop} (hd : 2 ≤ d) (h : w_Mod_trapOf_278 s0 M Q ) : e_E 209 d 0 0 278 [] [.int s0] M (e_QI Q) := by
  unfold w_Mod_trapOf_278 at h
  exact r_ireturn (kd209 rfl) R209 h
set_option maxRecDepth 100000 in
def w_Mod_trapOf_224 (l0 : Nat) (l1 : Int32) (M : eM) (Q : Int32 → eM → Prop) : Prop := e_ob M l0 12 ∧ w_Mod_peek l0 (l1 - 40) M (fun (v20 : Int32) (M19 : eM) => e_ob M19 l0 12 ∧ w_Mod_peek l0 (l1 - 41) M19 (fun (v22 : Int32) (M21 : eM) => (¬ v20 = 0 → e_ob M21 l0 12 ∧ e_ob M21 l0 12 ∧ w_Mod_objectOf l0 v20 M21 (fun (v24 : Int32) (M23 : eM) => e_ai M23 (gr M21 l0 77) v24 ∧ w_Mod_within v22 0 ((gi M23 (gr M21 l0 77) v24.toNatClampNeg) - 1) M23 (fun (v26 : Int32) (M25 : eM) => (v26 = 0 → w_Mod_trapOf_278 3 M25 Q) ∧ (¬ v26 = 0 → w_Mod_trapOf_278 0 M25 Q)))) ∧ (v20 = 0 → Q (2 : Int32) M21)))
set_option maxRecDepth 100000 in
theorem b_Mod_trapOf_224 {d : Nat} {l0 : Nat} {l1 : Int32} {M : eM} {Q : Int32 → eM → Prop} (hd : 2 ≤ d) (h : w_Mod_trapOf_224 l0 l1 M Q ) : e_E 209 d 0 0 224 [(0, .ref l0), (1, .int l1)] [] M (e_QI Q) := by
  unfold w_Mod_trapOf_224 at h
  refine r_aload_n (kd209 rfl) rfl rfl ?_
  refine r_iload_n (kd209 rfl) rfl rfl ?_
  refine r_bipush (kd209 rfl) (y := 40) (by decide) rfl ?_
  refine r_isub (kd209 rfl) rfl ?_
  obtain ⟨g, h⟩ := h
  refine r_callVI (d' := d - 1) (by omega) (kd209 rfl) (by decide) rfl rfl rfl rfl (Nat.le_of_ble_eq_true rfl) rfl L204 (Nat.le_of_ble_eq_true rfl) (Nat.le_of_ble_eq_true rfl) g (Nat.zero_le _) (Nat.zero_le _) rfl rfl rfl (b_Mod_peek (by omega) h) (fun x1 M1 h => ?_)
  refine r_istore (kd209 rfl) L209 (by decide) rfl rfl ?_
  refine r_aload_n (kd209 rfl) rfl rfl ?_
  refine r_iload_n (kd209 rfl) rfl rfl ?_
  refine r_bipush (kd209 rfl) (y := 41) (by decide) rfl ?_
  refine r_isub (kd209 rfl) rfl ?_
  obtain ⟨g, h⟩ := h
  refine r_callVI (d' := d - 1) (by omega) (kd209 rfl) (by decide) rfl rfl rfl rfl (Nat.le_of_ble_eq_true rfl) rfl L204 (Nat.le_of_ble_eq_true rfl) (Nat.le_of_ble_eq_true rfl) g (Nat.zero_le _) (Nat.zero_le _) rfl rfl rfl (b_Mod_peek (by omega) h) (fun x1 M1 h => ?_)
  refine r_istore (kd209 rfl) L209 (by decide) rfl rfl ?_
  refine r_iload (kd209 rfl) rfl rfl ?_
  refine r_if_ne (kd209 rfl) rfl (fun c => ?_) (fun c => ?_)
  · have h := h.1 c
    refine r_iload (kd209 rfl) rfl rfl ?_
    refine r_iconst (kd209 rfl) (y := 0) (by decide) rfl ?_
    refine r_aload_n (kd209 rfl) rfl rfl ?_
    obtain ⟨g, h⟩ := h
    refine r_get2 (kd209 rfl) (by decide) rfl g rfl ?_
    refine r_aload_n (kd209 rfl) rfl rfl ?_
    refine r_iload (kd209 rfl) rfl rfl ?_
    obtain ⟨g, h⟩ := h
    refine r_callVI (d' := d - 1) (by omega) (kd209 rfl) (by decide) rfl rfl rfl rfl (Nat.le_of_ble_eq_true rfl) rfl L195 (Nat.le_of_ble_eq_true rfl) (Nat.le_of_ble_eq_true rfl) g (Nat.zero_le _) (Nat.zero_le _) rfl rfl rfl (b_Mod_objectOf (by omega) h) (fun x1 M1 h => ?_)
    obtain ⟨g, h⟩ := h
    refine r_iaload (kd209 rfl) g rfl ?_
    refine r_iconst (kd209 rfl) (y := 1) (by decide) rfl ?_
    refine r_isub (kd209 rfl) rfl ?_
    refine r_callSI (d' := d - 1) (by omega) (kd209 rfl) (by decide) rfl rfl rfl rfl (Nat.le_of_ble_eq_true rfl) rfl L145 (Nat.le_of_ble_eq_true rfl) (Nat.le_of_ble_eq_true rfl) (Nat.zero_le _) (Nat.zero_le _) rfl rfl rfl (b_Mod_within (by omega) h) (fun x1 M1 h => ?_)
    refine r_if_eq (kd209 rfl) rfl (fun c => ?_) (fun c => ?_)
    · have h := h.1 c
      refine r_iconst (kd209 rfl) (y := 3) (by decide) rfl ?_
      exact (b_Mod_trapOf_278 hd h).less e_sn
    · have h := h.2 c
      refine r_iconst (kd209 rfl) (y := 0) (by decide) rfl ?_
      refine r_goto (kd209 rfl) ?_
      exact (b_Mod_trapOf_278 hd h).less e_sn
  · have h := h.2 c
    refine r_iconst (kd209 rfl) (y := 2) (by decide) rfl ?_
    exact r_ireturn (kd209 rfl) R209 h
set_option maxRecDepth 100000 in
def w_Mod_trapOf_327 (s0 : Int32) (M : eM) (Q : Int32 → eM → Prop) : Prop := Q s0 M
set_option maxRecDepth 100000 in
theorem b_Mod_trapOf_327 {d : Nat} {s0 : Int32} {M : eM} {Q : Int32 → eM → Prop} (hd : 2 ≤ d) (h : w_Mod_trapOf_327 s0 M Q ) : e_E 209 d 0 0 327 [] [.int s0] M (e_QI Q) := by
  unfold w_Mod_trapOf_327 at h
  exact r_ireturn (kd209 rfl) R209 h
set_option maxRecDepth 100000 in
def w_Mod_trapOf_343 (s0 : Int32) (M : eM) (Q : Int32 → eM → Prop) : Prop := Q s0 M
set_option maxRecDepth 100000 in
theorem b_Mod_trapOf_343 {d : Nat} {s0 : Int32} {M : eM} {Q : Int32 → eM → Prop} (hd : 2 ≤ d) (h : w_Mod_trapOf_343 s0 M Q ) : e_E 209 d 0 0 343 [] [.int s0] M (e_QI Q) := by
  unfold w_Mod_trapOf_343 at h
  exact r_ireturn (kd209 rfl) R209 h
set_option maxRecDepth 100000 in
def w_Mod_trapOf_383 (s0 : Int32) (M : eM) (Q : Int32 → eM → Prop) : Prop := Q s0 M
set_option maxRecDepth 100000 in
theorem b_Mod_trapOf_383 {d : Nat} {s0 : Int32} {M : eM} {Q : Int32 → eM → Prop} (hd : 2 ≤ d) (h : w_Mod_trapOf_383 s0 M Q ) : e_E 209 d 0 0 383 [] [.int s0] M (e_QI Q) := by
  unfold w_Mod_trapOf_383 at h
  exact r_ireturn (kd209 rfl) R209 h
set_option maxRecDepth 100000 in
def w_Mod_trapOf_384 (M : eM) (Q : Int32 → eM → Prop) : Prop := Q (0 : Int32) M
set_option maxRecDepth 100000 in
theorem b_Mod_trapOf_384 {d : Nat} {M : eM} {Q : Int32 → eM → Prop} (hd : 2 ≤ d) (h : w_Mod_trapOf_384 M Q ) : e_E 209 d 0 0 384 [] [] M (e_QI Q) := by
  unfold w_Mod_trapOf_384 at h
  refine r_iconst (kd209 rfl) (y := 0) (by decide) rfl ?_
  exact r_ireturn (kd209 rfl) R209 h
set_option maxRecDepth 100000 in
def w_Mod_trapOf (l0 : Nat) (l1 : Int32) (l2 : Int32) (l3 : Int32) (M : eM) (Q : Int32 → eM → Prop) : Prop := (l1 = 11 → w_Mod_trapOf_168 l0 M Q) ∧ (¬ l1 = 11 → (l1 = 12 → w_Mod_trapOf_168 l0 M Q) ∧ (¬ l1 = 12 → (l1 = 13 → w_Mod_trapOf_384 M Q) ∧ (¬ l1 = 13 → (l1 = 14 → w_Mod_trapOf_384 M Q) ∧ (¬ l1 = 14 → (l1 = 15 → w_Mod_trapOf_384 M Q) ∧ (¬ l1 = 15 → (l1 = 16 → w_Mod_trapOf_384 M Q) ∧ (¬ l1 = 16 → (l1 = 17 → w_Mod_trapOf_384 M Q) ∧ (¬ l1 = 17 → (l1 = 18 → w_Mod_trapOf_384 M Q) ∧ (¬ l1 = 18 → (l1 = 19 → w_Mod_trapOf_384 M Q) ∧ (¬ l1 = 19 → (l1 = 20 → w_Mod_trapOf_384 M Q) ∧ (¬ l1 = 20 → (l1 = 21 → w_Mod_trapOf_384 M Q) ∧ (¬ l1 = 21 → (l1 = 22 → w_Mod_trapOf_384 M Q) ∧ (¬ l1 = 22 → (l1 = 23 → w_Mod_trapOf_384 M Q) ∧ (¬ l1 = 23 → (l1 = 24 → w_Mod_trapOf_384 M Q) ∧ (¬ l1 = 24 → (l1 = 25 → w_Mod_trapOf_384 M Q) ∧ (¬ l1 = 25 → (l1 = 26 → w_Mod_trapOf_384 M Q) ∧ (¬ l1 = 26 → (l1 = 27 → w_Mod_trapOf_384 M Q) ∧ (¬ l1 = 27 → (l1 = 28 → w_Mod_trapOf_384 M Q) ∧ (¬ l1 = 28 → (l1 = 29 → w_Mod_trapOf_384 M Q) ∧ (¬ l1 = 29 → (l1 = 30 → w_Mod_trapOf_384 M Q) ∧ (¬ l1 = 30 → (l1 = 31 → w_Mod_trapOf_384 M Q) ∧ (¬ l1 = 31 → (l1 = 32 → w_Mod_trapOf_384 M Q) ∧ (¬ l1 = 32 → (l1 = 33 → w_Mod_trapOf_384 M Q) ∧ (¬ l1 = 33 → (l1 = 34 → w_Mod_trapOf_384 M Q) ∧ (¬ l1 = 34 → (l1 = 35 → w_Mod_trapOf_384 M Q) ∧ (¬ l1 = 35 → (l1 = 36 → w_Mod_trapOf_384 M Q) ∧ (¬ l1 = 36 → (l1 = 37 → w_Mod_trapOf_384 M Q) ∧ (¬ l1 = 37 → (l1 = 38 → w_Mod_trapOf_384 M Q) ∧ (¬ l1 = 38 → (l1 = 39 → w_Mod_trapOf_182 l0 M Q) ∧ (¬ l1 = 39 → (l1 = 40 → e_ob M l0 12 ∧ w_Mod_peek l0 2 M (fun (v2 : Int32) (M1 : eM) => (¬ v2 = 0 → w_Mod_trapOf_209 0 M1 Q) ∧ (v2 = 0 → w_Mod_trapOf_209 2 M1 Q))) ∧ (¬ l1 = 40 → (l1 = 41 → e_ob M l0 12 ∧ w_Mod_peek l0 1 M (fun (v4 : Int32) (M3 : eM) => (0 ≤ v4 → w_Mod_trapOf_223 0 M3 Q) ∧ (¬ 0 ≤ v4 → w_Mod_trapOf_223 4 M3 Q))) ∧ (¬ l1 = 41 → (l1 = 42 → w_Mod_trapOf_224 l0 l1 M Q) ∧ (¬ l1 = 42 → (l1 = 43 → w_Mod_trapOf_224 l0 l1 M Q) ∧ (¬ l1 = 43 → (l1 = 44 → w_Mod_trapOf_182 l0 M Q) ∧ (¬ l1 = 44 → (l1 = 45 → w_Mod_trapOf_384 M Q) ∧ (¬ l1 = 45 → (l1 = 46 → e_ob M l0 12 ∧ w_Mod_peek l0 1 M (fun (v6 : Int32) (M5 : eM) => (¬ v6 = 0 → e_ob M5 l0 12 ∧ w_Mod_peek l0 1 M5 (fun (v8 : Int32) (M7 : eM) => e_ob M7 l0 12 ∧ w_Mod_objectOf l0 v8 M7 (fun (v10 : Int32) (M9 : eM) => e_ob M9 l0 12 ∧ e_ai M9 (gr M9 l0 75) v10 ∧ e_ob M9 l0 12 ∧ w_Mod_byteAt l0 l2 (l3 + 1) M9 (fun (v12 : Int32) (M11 : eM) => e_ob M11 l0 12 ∧ w_Mod_isOf l0 (gi M9 (gr M9 l0 75) v10.toNatClampNeg) v12 M11 (fun (v14 : Int32) (M13 : eM) => (v14 = 0 → w_Mod_trapOf_327 5 M13 Q) ∧ (¬ v14 = 0 → w_Mod_trapOf_327 0 M13 Q)))))) ∧ (v6 = 0 → Q (0 : Int32) M5))) ∧ (¬ l1 = 46 → (l1 = 47 → e_ob M l0 12 ∧ (¬ (gi M l0 60) = 64 → w_Mod_trapOf_343 0 M Q) ∧ ((gi M l0 60) = 64 → w_Mod_trapOf_343 7 M Q)) ∧ (¬ l1 = 47 → (l1 = 48 → e_ob M l0 12 ∧ e_ob M l0 12 ∧ w_Mod_byteAt l0 l2 (l3 + 1) M (fun (v16 : Int32) (M15 : eM) => e_ai M15 (gr M l0 16) v16 ∧ e_ob M15 l0 12 ∧ w_Mod_peek l0 (1 + (gi M15 (gr M l0 16) v16.toNatClampNeg)) M15 (fun (v18 : Int32) (M17 : eM) => (¬ v18 = 0 → e_ob M17 l0 12 ∧ (¬ (gi M17 l0 60) = 64 → w_Mod_trapOf_383 0 M17 Q) ∧ ((gi M17 l0 60) = 64 → w_Mod_trapOf_383 7 M17 Q)) ∧ (v18 = 0 → Q (2 : Int32) M17)))) ∧ (¬ l1 = 48 → w_Mod_trapOf_384 M Q))))))))))))))))))))))))))))))))))))))
set_option maxRecDepth 100000 in
theorem b_Mod_trapOf {d : Nat} {l0 : Nat} {l1 : Int32} {l2 : Int32} {l3 : Int32} {M : eM} {Q : Int32 → eM → Prop} (hd : 2 ≤ d) (h : w_Mod_trapOf l0 l1 l2 l3 M Q) : e_CI 209 d 0 0 [.ref l0, .int l1, .int l2, .int l3] M Q := by
  unfold w_Mod_trapOf at h
  show e_E 209 d 0 0 0 [(0, .ref l0), (1, .int l1), (2, .int l2), (3, .int l3)] [] M (e_QI Q)
  refine r_iload_n (kd209 rfl) rfl rfl ?_
  refine r_tableswitch (kd209 rfl) (u := 384) (qs := [(11, 168), (12, 168), (13, 384), (14, 384), (15, 384), (16, 384), (17, 384), (18, 384), (19, 384), (20, 384), (21, 384), (22, 384), (23, 384), (24, 384), (25, 384), (26, 384), (27, 384), (28, 384), (29, 384), (30, 384), (31, 384), (32, 384), (33, 384), (34, 384), (35, 384), (36, 384), (37, 384), (38, 384), (39, 182), (40, 196), (41, 210), (42, 224), (43, 224), (44, 182), (45, 384), (46, 279), (47, 328), (48, 344)]) rfl rfl rfl (by decide) ?_
  refine ⟨fun c => ?_, fun c => ?_⟩
  · have h := h.1 c
    exact (b_Mod_trapOf_168 hd h).less (e_sc (List.mem_of_getElem? (i := 0) rfl) e_sn)
  have h := h.2 c
  refine ⟨fun c => ?_, fun c => ?_⟩
  · have h := h.1 c
    exact (b_Mod_trapOf_168 hd h).less (e_sc (List.mem_of_getElem? (i := 0) rfl) e_sn)
  have h := h.2 c
  refine ⟨fun c => ?_, fun c => ?_⟩
  · have h := h.1 c
    exact (b_Mod_trapOf_384 hd h).less e_sn
  have h := h.2 c
  refine ⟨fun c => ?_, fun c => ?_⟩
  · have h := h.1 c
    exact (b_Mod_trapOf_384 hd h).less e_sn
  have h := h.2 c
  refine ⟨fun c => ?_, fun c => ?_⟩
  · have h := h.1 c
    exact (b_Mod_trapOf_384 hd h).less e_sn
  have h := h.2 c
  refine ⟨fun c => ?_, fun c => ?_⟩
  · have h := h.1 c
    exact (b_Mod_trapOf_384 hd h).less e_sn
  have h := h.2 c
  refine ⟨fun c => ?_, fun c => ?_⟩
  · have h := h.1 c
    exact (b_Mod_trapOf_384 hd h).less e_sn
  have h := h.2 c
  refine ⟨fun c => ?_, fun c => ?_⟩
  · have h := h.1 c
    exact (b_Mod_trapOf_384 hd h).less e_sn
  have h := h.2 c
  refine ⟨fun c => ?_, fun c => ?_⟩
  · have h := h.1 c
    exact (b_Mod_trapOf_384 hd h).less e_sn
  have h := h.2 c
  refine ⟨fun c => ?_, fun c => ?_⟩
  · have h := h.1 c
    exact (b_Mod_trapOf_384 hd h).less e_sn
  have h := h.2 c
  refine ⟨fun c => ?_, fun c => ?_⟩
  · have h := h.1 c
    exact (b_Mod_trapOf_384 hd h).less e_sn
  have h := h.2 c
  refine ⟨fun c => ?_, fun c => ?_⟩
  · have h := h.1 c
    exact (b_Mod_trapOf_384 hd h).less e_sn
  have h := h.2 c
  refine ⟨fun c => ?_, fun c => ?_⟩
  · have h := h.1 c
    exact (b_Mod_trapOf_384 hd h).less e_sn
  have h := h.2 c
  refine ⟨fun c => ?_, fun c => ?_⟩
  · have h := h.1 c
    exact (b_Mod_trapOf_384 hd h).less e_sn
  have h := h.2 c
  refine ⟨fun c => ?_, fun c => ?_⟩
  · have h := h.1 c
    exact (b_Mod_trapOf_384 hd h).less e_sn
  have h := h.2 c
  refine ⟨fun c => ?_, fun c => ?_⟩
  · have h := h.1 c
    exact (b_Mod_trapOf_384 hd h).less e_sn
  have h := h.2 c
  refine ⟨fun c => ?_, fun c => ?_⟩
  · have h := h.1 c
    exact (b_Mod_trapOf_384 hd h).less e_sn
  have h := h.2 c
  refine ⟨fun c => ?_, fun c => ?_⟩
  · have h := h.1 c
    exact (b_Mod_trapOf_384 hd h).less e_sn
  have h := h.2 c
  refine ⟨fun c => ?_, fun c => ?_⟩
  · have h := h.1 c
    exact (b_Mod_trapOf_384 hd h).less e_sn
  have h := h.2 c
  refine ⟨fun c => ?_, fun c => ?_⟩
  · have h := h.1 c
    exact (b_Mod_trapOf_384 hd h).less e_sn
  have h := h.2 c
  refine ⟨fun c => ?_, fun c => ?_⟩
  · have h := h.1 c
    exact (b_Mod_trapOf_384 hd h).less e_sn
  have h := h.2 c
  refine ⟨fun c => ?_, fun c => ?_⟩
  · have h := h.1 c
    exact (b_Mod_trapOf_384 hd h).less e_sn
  have h := h.2 c
  refine ⟨fun c => ?_, fun c => ?_⟩
  · have h := h.1 c
    exact (b_Mod_trapOf_384 hd h).less e_sn
  have h := h.2 c
  refine ⟨fun c => ?_, fun c => ?_⟩
  · have h := h.1 c
    exact (b_Mod_trapOf_384 hd h).less e_sn
  have h := h.2 c
  refine ⟨fun c => ?_, fun c => ?_⟩
  · have h := h.1 c
    exact (b_Mod_trapOf_384 hd h).less e_sn
  have h := h.2 c
  refine ⟨fun c => ?_, fun c => ?_⟩
  · have h := h.1 c
    exact (b_Mod_trapOf_384 hd h).less e_sn
  have h := h.2 c
  refine ⟨fun c => ?_, fun c => ?_⟩
  · have h := h.1 c
    exact (b_Mod_trapOf_384 hd h).less e_sn
  have h := h.2 c
  refine ⟨fun c => ?_, fun c => ?_⟩
  · have h := h.1 c
    exact (b_Mod_trapOf_384 hd h).less e_sn
  have h := h.2 c
  refine ⟨fun c => ?_, fun c => ?_⟩
  · have h := h.1 c
    exact (b_Mod_trapOf_182 hd h).less (e_sc (List.mem_of_getElem? (i := 0) rfl) e_sn)
  have h := h.2 c
  refine ⟨fun c => ?_, fun c => ?_⟩
  · have h := h.1 c
    refine r_aload_n (kd209 rfl) rfl rfl ?_
    refine r_iconst (kd209 rfl) (y := 2) (by decide) rfl ?_
    obtain ⟨g, h⟩ := h
    refine r_callVI (d' := d - 1) (by omega) (kd209 rfl) (by decide) rfl rfl rfl rfl (Nat.le_of_ble_eq_true rfl) rfl L204 (Nat.le_of_ble_eq_true rfl) (Nat.le_of_ble_eq_true rfl) g (Nat.zero_le _) (Nat.zero_le _) rfl rfl rfl (b_Mod_peek (by omega) h) (fun x1 M1 h => ?_)
    refine r_if_ne (kd209 rfl) rfl (fun c => ?_) (fun c => ?_)
    · have h := h.1 c
      refine r_iconst (kd209 rfl) (y := 0) (by decide) rfl ?_
      exact (b_Mod_trapOf_209 hd h).less e_sn
    · have h := h.2 c
      refine r_iconst (kd209 rfl) (y := 2) (by decide) rfl ?_
      refine r_goto (kd209 rfl) ?_
      exact (b_Mod_trapOf_209 hd h).less e_sn
  have h := h.2 c
  refine ⟨fun c => ?_, fun c => ?_⟩
  · have h := h.1 c
    refine r_aload_n (kd209 rfl) rfl rfl ?_
    refine r_iconst (kd209 rfl) (y := 1) (by decide) rfl ?_
    obtain ⟨g, h⟩ := h
    refine r_callVI (d' := d - 1) (by omega) (kd209 rfl) (by decide) rfl rfl rfl rfl (Nat.le_of_ble_eq_true rfl) rfl L204 (Nat.le_of_ble_eq_true rfl) (Nat.le_of_ble_eq_true rfl) g (Nat.zero_le _) (Nat.zero_le _) rfl rfl rfl (b_Mod_peek (by omega) h) (fun x1 M1 h => ?_)
    refine r_if_ge (kd209 rfl) rfl (fun c => ?_) (fun c => ?_)
    · have h := h.1 c
      refine r_iconst (kd209 rfl) (y := 0) (by decide) rfl ?_
      exact (b_Mod_trapOf_223 hd h).less e_sn
    · have h := h.2 c
      refine r_iconst (kd209 rfl) (y := 4) (by decide) rfl ?_
      refine r_goto (kd209 rfl) ?_
      exact (b_Mod_trapOf_223 hd h).less e_sn
  have h := h.2 c
  refine ⟨fun c => ?_, fun c => ?_⟩
  · have h := h.1 c
    exact (b_Mod_trapOf_224 hd h).less (e_sc (List.mem_of_getElem? (i := 0) rfl) (e_sc (List.mem_of_getElem? (i := 1) rfl) e_sn))
  have h := h.2 c
  refine ⟨fun c => ?_, fun c => ?_⟩
  · have h := h.1 c
    exact (b_Mod_trapOf_224 hd h).less (e_sc (List.mem_of_getElem? (i := 0) rfl) (e_sc (List.mem_of_getElem? (i := 1) rfl) e_sn))
  have h := h.2 c
  refine ⟨fun c => ?_, fun c => ?_⟩
  · have h := h.1 c
    exact (b_Mod_trapOf_182 hd h).less (e_sc (List.mem_of_getElem? (i := 0) rfl) e_sn)
  have h := h.2 c
  refine ⟨fun c => ?_, fun c => ?_⟩
  · have h := h.1 c
    exact (b_Mod_trapOf_384 hd h).less e_sn
  have h := h.2 c
  refine ⟨fun c => ?_, fun c => ?_⟩
  · have h := h.1 c
    refine r_aload_n (kd209 rfl) rfl rfl ?_
    refine r_iconst (kd209 rfl) (y := 1) (by decide) rfl ?_
    obtain ⟨g, h⟩ := h
    refine r_callVI (d' := d - 1) (by omega) (kd209 rfl) (by decide) rfl rfl rfl rfl (Nat.le_of_ble_eq_true rfl) rfl L204 (Nat.le_of_ble_eq_true rfl) (Nat.le_of_ble_eq_true rfl) g (Nat.zero_le _) (Nat.zero_le _) rfl rfl rfl (b_Mod_peek (by omega) h) (fun x1 M1 h => ?_)
    refine r_if_ne (kd209 rfl) rfl (fun c => ?_) (fun c => ?_)
    · have h := h.1 c
      refine r_aload_n (kd209 rfl) rfl rfl ?_
      refine r_aload_n (kd209 rfl) rfl rfl ?_
      refine r_iconst (kd209 rfl) (y := 1) (by decide) rfl ?_
      obtain ⟨g, h⟩ := h
      refine r_callVI (d' := d - 1) (by omega) (kd209 rfl) (by decide) rfl rfl rfl rfl (Nat.le_of_ble_eq_true rfl) rfl L204 (Nat.le_of_ble_eq_true rfl) (Nat.le_of_ble_eq_true rfl) g (Nat.zero_le _) (Nat.zero_le _) rfl rfl rfl (b_Mod_peek (by omega) h) (fun x1 M1 h => ?_)
      obtain ⟨g, h⟩ := h
      refine r_callVI (d' := d - 1) (by omega) (kd209 rfl) (by decide) rfl rfl rfl rfl (Nat.le_of_ble_eq_true rfl) rfl L195 (Nat.le_of_ble_eq_true rfl) (Nat.le_of_ble_eq_true rfl) g (Nat.zero_le _) (Nat.zero_le _) rfl rfl rfl (b_Mod_objectOf (by omega) h) (fun x1 M1 h => ?_)
      refine r_istore (kd209 rfl) L209 (by decide) rfl rfl ?_
      refine r_aload_n (kd209 rfl) rfl rfl ?_
      refine r_aload_n (kd209 rfl) rfl rfl ?_
      obtain ⟨g, h⟩ := h
      refine r_get2 (kd209 rfl) (by decide) rfl g rfl ?_
      refine r_iload (kd209 rfl) rfl rfl ?_
      obtain ⟨g, h⟩ := h
      refine r_iaload (kd209 rfl) g rfl ?_
      refine r_aload_n (kd209 rfl) rfl rfl ?_
      refine r_iload_n (kd209 rfl) rfl rfl ?_
      refine r_iload_n (kd209 rfl) rfl rfl ?_
      refine r_iconst (kd209 rfl) (y := 1) (by decide) rfl ?_
      refine r_iadd (kd209 rfl) rfl ?_
      obtain ⟨g, h⟩ := h
      refine r_callVI (d' := d - 1) (by omega) (kd209 rfl) (by decide) rfl rfl rfl rfl (Nat.le_of_ble_eq_true rfl) rfl L158 (Nat.le_of_ble_eq_true rfl) (Nat.le_of_ble_eq_true rfl) g (Nat.zero_le _) (Nat.zero_le _) rfl rfl rfl (b_Mod_byteAt (by omega) h) (fun x1 M1 h => ?_)
      obtain ⟨g, h⟩ := h
      refine r_callVI (d' := d - 1) (by omega) (kd209 rfl) (by decide) rfl rfl rfl rfl (Nat.le_of_ble_eq_true rfl) rfl L153 (Nat.le_of_ble_eq_true rfl) (Nat.le_of_ble_eq_true rfl) g (Nat.zero_le _) (Nat.zero_le _) rfl rfl rfl (b_Mod_isOf (by omega) h) (fun x1 M1 h => ?_)
      refine r_if_eq (kd209 rfl) rfl (fun c => ?_) (fun c => ?_)
      · have h := h.1 c
        refine r_iconst (kd209 rfl) (y := 5) (by decide) rfl ?_
        exact (b_Mod_trapOf_327 hd h).less e_sn
      · have h := h.2 c
        refine r_iconst (kd209 rfl) (y := 0) (by decide) rfl ?_
        refine r_goto (kd209 rfl) ?_
        exact (b_Mod_trapOf_327 hd h).less e_sn
    · have h := h.2 c
      refine r_iconst (kd209 rfl) (y := 0) (by decide) rfl ?_
      exact r_ireturn (kd209 rfl) R209 h
  have h := h.2 c
  refine ⟨fun c => ?_, fun c => ?_⟩
  · have h := h.1 c
    refine r_aload_n (kd209 rfl) rfl rfl ?_
    obtain ⟨g, h⟩ := h
    refine r_get0 (kd209 rfl) (by decide) rfl g rfl ?_
    refine r_bipush (kd209 rfl) (y := 64) (by decide) rfl ?_
    refine r_icmp_ne (kd209 rfl) rfl (fun c => ?_) (fun c => ?_)
    · have h := h.1 c
      refine r_iconst (kd209 rfl) (y := 0) (by decide) rfl ?_
      exact (b_Mod_trapOf_343 hd h).less e_sn
    · have h := h.2 c
      refine r_bipush (kd209 rfl) (y := 7) (by decide) rfl ?_
      refine r_goto (kd209 rfl) ?_
      exact (b_Mod_trapOf_343 hd h).less e_sn
  have h := h.2 c
  refine ⟨fun c => ?_, fun c => ?_⟩
  · have h := h.1 c
    refine r_aload_n (kd209 rfl) rfl rfl ?_
    refine r_iconst (kd209 rfl) (y := 1) (by decide) rfl ?_
    refine r_aload_n (kd209 rfl) rfl rfl ?_
    obtain ⟨g, h⟩ := h
    refine r_get2 (kd209 rfl) (by decide) rfl g rfl ?_
    refine r_aload_n (kd209 rfl) rfl rfl ?_
    refine r_iload_n (kd209 rfl) rfl rfl ?_
    refine r_iload_n (kd209 rfl) rfl rfl ?_
    refine r_iconst (kd209 rfl) (y := 1) (by decide) rfl ?_
    refine r_iadd (kd209 rfl) rfl ?_
    obtain ⟨g, h⟩ := h
    refine r_callVI (d' := d - 1) (by omega) (kd209 rfl) (by decide) rfl rfl rfl rfl (Nat.le_of_ble_eq_true rfl) rfl L158 (Nat.le_of_ble_eq_true rfl) (Nat.le_of_ble_eq_true rfl) g (Nat.zero_le _) (Nat.zero_le _) rfl rfl rfl (b_Mod_byteAt (by omega) h) (fun x1 M1 h => ?_)
    obtain ⟨g, h⟩ := h
    refine r_iaload (kd209 rfl) g rfl ?_
    refine r_iadd (kd209 rfl) rfl ?_
    obtain ⟨g, h⟩ := h
    refine r_callVI (d' := d - 1) (by omega) (kd209 rfl) (by decide) rfl rfl rfl rfl (Nat.le_of_ble_eq_true rfl) rfl L204 (Nat.le_of_ble_eq_true rfl) (Nat.le_of_ble_eq_true rfl) g (Nat.zero_le _) (Nat.zero_le _) rfl rfl rfl (b_Mod_peek (by omega) h) (fun x1 M1 h => ?_)
    refine r_if_ne (kd209 rfl) rfl (fun c => ?_) (fun c => ?_)
    · have h := h.1 c
      refine r_aload_n (kd209 rfl) rfl rfl ?_
      obtain ⟨g, h⟩ := h
      refine r_get0 (kd209 rfl) (by decide) rfl g rfl ?_
      refine r_bipush (kd209 rfl) (y := 64) (by decide) rfl ?_
      refine r_icmp_ne (kd209 rfl) rfl (fun c => ?_) (fun c => ?_)
      · have h := h.1 c
        refine r_iconst (kd209 rfl) (y := 0) (by decide) rfl ?_
        exact (b_Mod_trapOf_383 hd h).less e_sn
      · have h := h.2 c
        refine r_bipush (kd209 rfl) (y := 7) (by decide) rfl ?_
        refine r_goto (kd209 rfl) ?_
        exact (b_Mod_trapOf_383 hd h).less e_sn
    · have h := h.2 c
      refine r_iconst (kd209 rfl) (y := 2) (by decide) rfl ?_
      exact r_ireturn (kd209 rfl) R209 h
  have h := h.2 c
  show e_E 209 _ _ _ 384 _ _ _ _
  exact (b_Mod_trapOf_384 hd h).less e_sn
/-- TierMillModel.stop(I)V -/
theorem kd210 {pc : Nat} {q : eI} (h : e_d210.lookup pc = some q) : e_dec 210 pc = some q := h
theorem L210 : (e_m 210).2.2.1 = 2 := rfl
theorem R210 : (e_m 210).2.2.2.1 = none := rfl
def w_Mod_stop (l0 : Nat) (l1 : Int32) (M : eM) (Q : eM → Prop) : Prop := e_ob M l0 12 ∧ ∀ M1 : eM, M1 = e_si M l0 42 l1 → e_ob M1 l0 12 ∧ ∀ M2 : eM, M2 = e_si M1 l0 41 3 → Q M2
theorem b_Mod_stop {d : Nat} {l0 : Nat} {l1 : Int32} {M : eM} {Q : eM → Prop} (hd : 0 ≤ d) (h : w_Mod_stop l0 l1 M Q) : e_CV 210 d 0 0 [.ref l0, .int l1] M Q := by
  unfold w_Mod_stop at h
  show e_E 210 d 0 0 0 [(0, .ref l0), (1, .int l1)] [] M (e_QV Q)
  refine r_aload_n (kd210 rfl) rfl rfl ?_
  refine r_iload_n (kd210 rfl) rfl rfl ?_
  obtain ⟨g, h⟩ := h
  have h := h _ rfl
  refine r_put0 (kd210 rfl) (by decide) rfl g rfl ?_
  refine r_aload_n (kd210 rfl) rfl rfl ?_
  refine r_iconst (kd210 rfl) (y := 3) (by decide) rfl ?_
  obtain ⟨g, h⟩ := h
  have h := h _ rfl
  refine r_put0 (kd210 rfl) (by decide) rfl g rfl ?_
  exact r_return (kd210 rfl) R210 h
/-- TierMillModel.leave(Z)V -/
theorem kd212 {pc : Nat} {q : eI} (h : e_d212.lookup pc = some q) : e_dec 212 pc = some q := h
theorem L212 : (e_m 212).2.2.1 = 3 := rfl
theorem R212 : (e_m 212).2.2.2.1 = none := rfl
def w_Mod_leave_39 (M : eM) (Q : eM → Prop) : Prop := Q M
theorem b_Mod_leave_39 {d : Nat} {M : eM} {Q : eM → Prop} (hd : 1 ≤ d) (h : w_Mod_leave_39 M Q ) : e_E 212 d 0 0 39 [] [] M (e_QV Q) := by
  unfold w_Mod_leave_39 at h
  exact r_return (kd212 rfl) R212 h
def w_Mod_leave_65 (s0 : Int32) (s1 : Nat) (M : eM) (Q : eM → Prop) : Prop := e_ob M s1 12 ∧ ∀ M6 : eM, M6 = e_si M s1 43 s0 → Q M6
theorem b_Mod_leave_65 {d : Nat} {s0 : Int32} {s1 : Nat} {M : eM} {Q : eM → Prop} (hd : 1 ≤ d) (h : w_Mod_leave_65 s0 s1 M Q ) : e_E 212 d 0 0 65 [] [.int s0, .ref s1] M (e_QV Q) := by
  unfold w_Mod_leave_65 at h
  obtain ⟨g, h⟩ := h
  have h := h _ rfl
  refine r_put0 (kd212 rfl) (by decide) rfl g rfl ?_
  exact r_return (kd212 rfl) R212 h
def w_Mod_leave_64 (s0 : Nat) (M : eM) (Q : eM → Prop) : Prop := w_Mod_leave_65 0 s0 M Q
theorem b_Mod_leave_64 {d : Nat} {s0 : Nat} {M : eM} {Q : eM → Prop} (hd : 1 ≤ d) (h : w_Mod_leave_64 s0 M Q ) : e_E 212 d 0 0 64 [] [.ref s0] M (e_QV Q) := by
  unfold w_Mod_leave_64 at h
  refine r_iconst (kd212 rfl) (y := 0) (by decide) rfl ?_
  exact (b_Mod_leave_65 hd h).less e_sn
def w_Mod_leave_12 (l0 : Nat) (l1 : Int32) (s0 : Int32) (M : eM) (Q : eM → Prop) : Prop := e_ob M l0 12 ∧ e_ob M l0 12 ∧ ∀ M3 : eM, M3 = e_si M l0 60 ((gi M l0 60) - 1) → e_ob M3 l0 12 ∧ ((gi M3 l0 60) ≤ 0 → e_ob M3 l0 12 ∧ ∀ M4 : eM, M4 = e_si M3 l0 41 2 → (l1 = 0 → w_Mod_leave_64 l0 M4 Q) ∧ (¬ l1 = 0 → e_ob M4 l0 12 ∧ e_ai M4 (gr M4 l0 22) 0 ∧ (¬ (gi M4 (gr M4 l0 22) (0 : Int32).toNatClampNeg) = 1 → w_Mod_leave_64 l0 M4 Q) ∧ ((gi M4 (gr M4 l0 22) (0 : Int32).toNatClampNeg) = 1 → w_Mod_leave_65 s0 l0 M4 Q))) ∧ (¬ (gi M3 l0 60) ≤ 0 → (l1 = 0 → w_Mod_leave_39 M3 Q) ∧ (¬ l1 = 0 → e_ob M3 l0 12 ∧ w_Mod_push l0 s0 M3 (fun (M5 : eM) => w_Mod_leave_39 M5 Q)))
theorem b_Mod_leave_12 {d : Nat} {l0 : Nat} {l1 : Int32} {s0 : Int32} {M : eM} {Q : eM → Prop} (hd : 1 ≤ d) (h : w_Mod_leave_12 l0 l1 s0 M Q ) : e_E 212 d 0 0 12 [(0, .ref l0), (1, .int l1)] [.int s0] M (e_QV Q) := by
  unfold w_Mod_leave_12 at h
  refine r_istore_n (kd212 rfl) L212 (by decide) rfl rfl ?_
  refine r_aload_n (kd212 rfl) rfl rfl ?_
  refine r_dup (kd212 rfl) rfl rfl ?_
  obtain ⟨g, h⟩ := h
  refine r_get0 (kd212 rfl) (by decide) rfl g rfl ?_
  refine r_iconst (kd212 rfl) (y := 1) (by decide) rfl ?_
  refine r_isub (kd212 rfl) rfl ?_
  obtain ⟨g, h⟩ := h
  have h := h _ rfl
  refine r_put0 (kd212 rfl) (by decide) rfl g rfl ?_
  refine r_aload_n (kd212 rfl) rfl rfl ?_
  obtain ⟨g, h⟩ := h
  refine r_get0 (kd212 rfl) (by decide) rfl g rfl ?_
  refine r_if_le (kd212 rfl) rfl (fun c => ?_) (fun c => ?_)
  · have h := h.1 c
    refine r_aload_n (kd212 rfl) rfl rfl ?_
    refine r_iconst (kd212 rfl) (y := 2) (by decide) rfl ?_
    obtain ⟨g, h⟩ := h
    have h := h _ rfl
    refine r_put0 (kd212 rfl) (by decide) rfl g rfl ?_
    refine r_aload_n (kd212 rfl) rfl rfl ?_
    refine r_iload_n (kd212 rfl) rfl rfl ?_
    refine r_if_eq (kd212 rfl) rfl (fun c => ?_) (fun c => ?_)
    · have h := h.1 c
      exact (b_Mod_leave_64 hd h).less e_sn
    · have h := h.2 c
      refine r_aload_n (kd212 rfl) rfl rfl ?_
      obtain ⟨g, h⟩ := h
      refine r_get2 (kd212 rfl) (by decide) rfl g rfl ?_
      refine r_iconst (kd212 rfl) (y := 0) (by decide) rfl ?_
      obtain ⟨g, h⟩ := h
      refine r_iaload (kd212 rfl) g rfl ?_
      refine r_iconst (kd212 rfl) (y := 1) (by decide) rfl ?_
      refine r_icmp_ne (kd212 rfl) rfl (fun c => ?_) (fun c => ?_)
      · have h := h.1 c
        exact (b_Mod_leave_64 hd h).less e_sn
      · have h := h.2 c
        refine r_iload_n (kd212 rfl) rfl rfl ?_
        refine r_goto (kd212 rfl) ?_
        exact (b_Mod_leave_65 hd h).less e_sn
  · have h := h.2 c
    refine r_iload_n (kd212 rfl) rfl rfl ?_
    refine r_if_eq (kd212 rfl) rfl (fun c => ?_) (fun c => ?_)
    · have h := h.1 c
      exact (b_Mod_leave_39 hd h).less e_sn
    · have h := h.2 c
      refine r_aload_n (kd212 rfl) rfl rfl ?_
      refine r_iload_n (kd212 rfl) rfl rfl ?_
      obtain ⟨g, h⟩ := h
      refine r_callVV (d' := d - 1) (by omega) (kd212 rfl) (by decide) rfl rfl rfl rfl (Nat.le_of_ble_eq_true rfl) rfl L203 (Nat.le_of_ble_eq_true rfl) (Nat.le_of_ble_eq_true rfl) g (Nat.zero_le _) (Nat.zero_le _) rfl rfl rfl (b_Mod_push (by omega) h) (fun M1 h => ?_)
      exact (b_Mod_leave_39 hd h).less e_sn
def w_Mod_leave (l0 : Nat) (l1 : Int32) (M : eM) (Q : eM → Prop) : Prop := (l1 = 0 → w_Mod_leave_12 l0 l1 0 M Q) ∧ (¬ l1 = 0 → e_ob M l0 12 ∧ w_Mod_pop l0 M (fun (v2 : Int32) (M1 : eM) => w_Mod_leave_12 l0 l1 v2 M1 Q))
theorem b_Mod_leave {d : Nat} {l0 : Nat} {l1 : Int32} {M : eM} {Q : eM → Prop} (hd : 1 ≤ d) (h : w_Mod_leave l0 l1 M Q) : e_CV 212 d 0 0 [.ref l0, .int l1] M Q := by
  unfold w_Mod_leave at h
  show e_E 212 d 0 0 0 [(0, .ref l0), (1, .int l1)] [] M (e_QV Q)
  refine r_iload_n (kd212 rfl) rfl rfl ?_
  refine r_if_eq (kd212 rfl) rfl (fun c => ?_) (fun c => ?_)
  · have h := h.1 c
    refine r_iconst (kd212 rfl) (y := 0) (by decide) rfl ?_
    exact (b_Mod_leave_12 hd h).less (e_sc (List.mem_of_getElem? (i := 0) rfl) (e_sc (List.mem_of_getElem? (i := 1) rfl) e_sn))
  · have h := h.2 c
    refine r_aload_n (kd212 rfl) rfl rfl ?_
    obtain ⟨g, h⟩ := h
    refine r_callVI (d' := d - 1) (by omega) (kd212 rfl) (by decide) rfl rfl rfl rfl (Nat.le_of_ble_eq_true rfl) rfl L202 (Nat.le_of_ble_eq_true rfl) (Nat.le_of_ble_eq_true rfl) g (Nat.zero_le _) (Nat.zero_le _) rfl rfl rfl (b_Mod_pop (by omega) h) (fun x1 M1 h => ?_)
    refine r_goto (kd212 rfl) ?_
    exact (b_Mod_leave_12 hd h).less (e_sc (List.mem_of_getElem? (i := 0) rfl) (e_sc (List.mem_of_getElem? (i := 1) rfl) e_sn))
/-- TierMillModel.nextInput()I -/
theorem kd214 {pc : Nat} {q : eI} (h : e_d214.lookup pc = some q) : e_dec 214 pc = some q := h
theorem L214 : (e_m 214).2.2.1 = 3 := rfl
theorem R214 : (e_m 214).2.2.2.1 = (some .int) := rfl
def w_Mod_nextInput_28 : Nat → Nat → Int32 → Int32 → eM → (Int32 → eM → Prop) → Prop
  | 0, _, _, _, _, _ => False
  | n + 1, l0, l1, l2, M, Q => e_ob M l0 12 ∧ ((gi M l0 39) ≤ l2 → Q l1 M) ∧ (¬ (gi M l0 39) ≤ l2 → e_ob M l0 12 ∧ e_ob M l0 12 ∧ e_ai M (gr M l0 40) (l2 + 1) ∧ e_ar M (gr M l0 40) 20 l2 ∧ ∀ M3 : eM, M3 = e_si M (gr M l0 40) l2.toNatClampNeg (gi M (gr M l0 40) (l2 + 1).toNatClampNeg) → (fun l0 l1 l2 M => w_Mod_nextInput_28 n l0 l1 l2 M Q ) l0 l1 (l2 + 1) M3)
theorem b_Mod_nextInput_28 {d : Nat} {Q : Int32 → eM → Prop} (hd : 0 ≤ d) (n : Nat) : ∀ (l0 : Nat) (l1 : Int32) (l2 : Int32) (M : eM), w_Mod_nextInput_28 n l0 l1 l2 M Q → e_E 214 d 0 0 28 [(0, .ref l0), (1, .int l1), (2, .int l2)] [] M (e_QI Q) := by
  induction n with
  | zero => intro l0 l1 l2 M h; exact False.elim h
  | succ n ih =>
    intro l0 l1 l2 M h
    have hk28 := ih
    refine r_iload_n (kd214 rfl) rfl rfl ?_
    refine r_aload_n (kd214 rfl) rfl rfl ?_
    obtain ⟨g, h⟩ := h
    refine r_get0 (kd214 rfl) (by decide) rfl g rfl ?_
    refine r_icmp_ge (kd214 rfl) rfl (fun c => ?_) (fun c => ?_)
    · have h := h.1 c
      refine r_iload_n (kd214 rfl) rfl rfl ?_
      exact r_ireturn (kd214 rfl) R214 h
    · have h := h.2 c
      refine r_aload_n (kd214 rfl) rfl rfl ?_
      obtain ⟨g, h⟩ := h
      refine r_get2 (kd214 rfl) (by decide) rfl g rfl ?_
      refine r_iload_n (kd214 rfl) rfl rfl ?_
      refine r_aload_n (kd214 rfl) rfl rfl ?_
      obtain ⟨g, h⟩ := h
      refine r_get2 (kd214 rfl) (by decide) rfl g rfl ?_
      refine r_iload_n (kd214 rfl) rfl rfl ?_
      refine r_iconst (kd214 rfl) (y := 1) (by decide) rfl ?_
      refine r_iadd (kd214 rfl) rfl ?_
      obtain ⟨g, h⟩ := h
      refine r_iaload (kd214 rfl) g rfl ?_
      obtain ⟨g, h⟩ := h
      have h := h _ rfl
      refine r_iastore (kd214 rfl) g rfl ?_
      refine r_iinc (kd214 rfl) rfl (y := 1) (by decide) L214 (by decide) rfl rfl ?_
      refine r_goto (kd214 rfl) ?_
      exact (hk28 _ _ _ _ h).less (e_sc (List.mem_of_getElem? (i := 1) rfl) (e_sc (List.mem_of_getElem? (i := 2) rfl) (e_sc (List.mem_of_getElem? (i := 0) rfl) e_sn)))
def w_Mod_nextInput (l0 : Nat) (M : eM) (Q : Int32 → eM → Prop) : Prop := e_ob M l0 12 ∧ (¬ (gi M l0 39) = 0 → e_ob M l0 12 ∧ e_ai M (gr M l0 40) 0 ∧ e_ob M l0 12 ∧ e_ob M l0 12 ∧ ∀ M1 : eM, M1 = e_si M l0 39 ((gi M l0 39) - 1) → ∃ n2 : Nat, w_Mod_nextInput_28 n2 l0 (gi M (gr M l0 40) (0 : Int32).toNatClampNeg) 0 M1 Q) ∧ ((gi M l0 39) = 0 → Q (0 : Int32) M)
theorem b_Mod_nextInput {d : Nat} {l0 : Nat} {M : eM} {Q : Int32 → eM → Prop} (hd : 0 ≤ d) (h : w_Mod_nextInput l0 M Q) : e_CI 214 d 0 0 [.ref l0] M Q := by
  unfold w_Mod_nextInput at h
  show e_E 214 d 0 0 0 [(0, .ref l0)] [] M (e_QI Q)
  refine r_aload_n (kd214 rfl) rfl rfl ?_
  obtain ⟨g, h⟩ := h
  refine r_get0 (kd214 rfl) (by decide) rfl g rfl ?_
  refine r_if_ne (kd214 rfl) rfl (fun c => ?_) (fun c => ?_)
  · have h := h.1 c
    refine r_aload_n (kd214 rfl) rfl rfl ?_
    obtain ⟨g, h⟩ := h
    refine r_get2 (kd214 rfl) (by decide) rfl g rfl ?_
    refine r_iconst (kd214 rfl) (y := 0) (by decide) rfl ?_
    obtain ⟨g, h⟩ := h
    refine r_iaload (kd214 rfl) g rfl ?_
    refine r_istore_n (kd214 rfl) L214 (by decide) rfl rfl ?_
    refine r_aload_n (kd214 rfl) rfl rfl ?_
    refine r_dup (kd214 rfl) rfl rfl ?_
    obtain ⟨g, h⟩ := h
    refine r_get0 (kd214 rfl) (by decide) rfl g rfl ?_
    refine r_iconst (kd214 rfl) (y := 1) (by decide) rfl ?_
    refine r_isub (kd214 rfl) rfl ?_
    obtain ⟨g, h⟩ := h
    have h := h _ rfl
    refine r_put0 (kd214 rfl) (by decide) rfl g rfl ?_
    refine r_iconst (kd214 rfl) (y := 0) (by decide) rfl ?_
    refine r_istore_n (kd214 rfl) L214 (by decide) rfl rfl ?_
    obtain ⟨n, h⟩ := h
    exact (b_Mod_nextInput_28 hd n _ _ _ _ h).less (e_sc (List.mem_of_getElem? (i := 2) rfl) (e_sc (List.mem_of_getElem? (i := 1) rfl) (e_sc (List.mem_of_getElem? (i := 0) rfl) e_sn)))
  · have h := h.2 c
    refine r_iconst (kd214 rfl) (y := 0) (by decide) rfl ?_
    exact r_ireturn (kd214 rfl) R214 h
/-- TierMillModel.act(IIIIII)V -/
theorem kd213 {pc : Nat} {q : eI} (h : e_d213.lookup pc = some q) : e_dec 213 pc = some q := h
theorem L213 : (e_m 213).2.2.1 = 10 := rfl
theorem R213 : (e_m 213).2.2.2.1 = none := rfl
set_option maxRecDepth 100000 in
def w_Mod_act_703 (M : eM) (Q : eM → Prop) : Prop := Q M
set_option maxRecDepth 100000 in
theorem b_Mod_act_703 {d : Nat} {M : eM} {Q : eM → Prop} (hd : 2 ≤ d) (h : w_Mod_act_703 M Q ) : e_E 213 d 0 0 703 [] [] M (e_QV Q) := by
  unfold w_Mod_act_703 at h
  exact r_return (kd213 rfl) R213 h
set_option maxRecDepth 100000 in
def w_Mod_act_618 (s0 : Int32) (s1 : Nat) (M : eM) (Q : eM → Prop) : Prop := e_ob M s1 12 ∧ w_Mod_push s1 s0 M (fun (M81 : eM) => w_Mod_act_703 M81 Q)
set_option maxRecDepth 100000 in
theorem b_Mod_act_618 {d : Nat} {s0 : Int32} {s1 : Nat} {M : eM} {Q : eM → Prop} (hd : 2 ≤ d) (h : w_Mod_act_618 s0 s1 M Q ) : e_E 213 d 0 0 618 [] [.int s0, .ref s1] M (e_QV Q) := by
  unfold w_Mod_act_618 at h
  obtain ⟨g, h⟩ := h
  refine r_callVV (d' := d - 1) (by omega) (kd213 rfl) (by decide) rfl rfl rfl rfl (Nat.le_of_ble_eq_true rfl) rfl L203 (Nat.le_of_ble_eq_true rfl) (Nat.le_of_ble_eq_true rfl) g (Nat.zero_le _) (Nat.zero_le _) rfl rfl rfl (b_Mod_push (by omega) h) (fun M1 h => ?_)
  refine r_goto (kd213 rfl) ?_
  exact (b_Mod_act_703 hd h).less e_sn
set_option maxRecDepth 100000 in
def w_Mod_act_617 (s0 : Nat) (M : eM) (Q : eM → Prop) : Prop := w_Mod_act_618 0 s0 M Q
set_option maxRecDepth 100000 in
theorem b_Mod_act_617 {d : Nat} {s0 : Nat} {M : eM} {Q : eM → Prop} (hd : 2 ≤ d) (h : w_Mod_act_617 s0 M Q ) : e_E 213 d 0 0 617 [] [.ref s0] M (e_QV Q) := by
  unfold w_Mod_act_617 at h
  refine r_iconst (kd213 rfl) (y := 0) (by decide) rfl ?_
  exact (b_Mod_act_618 hd h).less e_sn
set_option maxRecDepth 100000 in
def w_Mod_act_654 (l0 : Nat) (M : eM) (Q : eM → Prop) : Prop := e_ob M l0 12 ∧ e_ob M l0 12 ∧ ∀ M80 : eM, M80 = e_si M l0 47 ((gi M l0 47) + 1) → w_Mod_act_703 M80 Q
set_option maxRecDepth 100000 in
theorem b_Mod_act_654 {d : Nat} {l0 : Nat} {M : eM} {Q : eM → Prop} (hd : 2 ≤ d) (h : w_Mod_act_654 l0 M Q ) : e_E 213 d 0 0 654 [(0, .ref l0)] [] M (e_QV Q) := by
  unfold w_Mod_act_654 at h
  refine r_aload_n (kd213 rfl) rfl rfl ?_
  refine r_dup (kd213 rfl) rfl rfl ?_
  obtain ⟨g, h⟩ := h
  refine r_get0 (kd213 rfl) (by decide) rfl g rfl ?_
  refine r_iconst (kd213 rfl) (y := 1) (by decide) rfl ?_
  refine r_iadd (kd213 rfl) rfl ?_
  obtain ⟨g, h⟩ := h
  have h := h _ rfl
  refine r_put0 (kd213 rfl) (by decide) rfl g rfl ?_
  refine r_goto (kd213 rfl) ?_
  exact (b_Mod_act_703 hd h).less e_sn
set_option maxRecDepth 100000 in
def w_Mod_act_678 (l0 : Nat) (l4 : Int32) (M : eM) (Q : eM → Prop) : Prop := e_ob M l0 12 ∧ w_Mod_pop l0 M (fun (v83 : Int32) (M82 : eM) => e_ob M82 l0 12 ∧ w_Mod_pop l0 M82 (fun (v85 : Int32) (M84 : eM) => w_Mod_reckon l4 v85 v83 M84 (fun (v87 : Int32) (M86 : eM) => e_ob M86 l0 12 ∧ w_Mod_push l0 v87 M86 (fun (M88 : eM) => w_Mod_act_703 M88 Q))))
set_option maxRecDepth 100000 in
theorem b_Mod_act_678 {d : Nat} {l0 : Nat} {l4 : Int32} {M : eM} {Q : eM → Prop} (hd : 2 ≤ d) (h : w_Mod_act_678 l0 l4 M Q ) : e_E 213 d 0 0 678 [(0, .ref l0), (4, .int l4)] [] M (e_QV Q) := by
  unfold w_Mod_act_678 at h
  refine r_aload_n (kd213 rfl) rfl rfl ?_
  obtain ⟨g, h⟩ := h
  refine r_callVI (d' := d - 1) (by omega) (kd213 rfl) (by decide) rfl rfl rfl rfl (Nat.le_of_ble_eq_true rfl) rfl L202 (Nat.le_of_ble_eq_true rfl) (Nat.le_of_ble_eq_true rfl) g (Nat.zero_le _) (Nat.zero_le _) rfl rfl rfl (b_Mod_pop (by omega) h) (fun x1 M1 h => ?_)
  refine r_istore (kd213 rfl) L213 (by decide) rfl rfl ?_
  refine r_aload_n (kd213 rfl) rfl rfl ?_
  obtain ⟨g, h⟩ := h
  refine r_callVI (d' := d - 1) (by omega) (kd213 rfl) (by decide) rfl rfl rfl rfl (Nat.le_of_ble_eq_true rfl) rfl L202 (Nat.le_of_ble_eq_true rfl) (Nat.le_of_ble_eq_true rfl) g (Nat.zero_le _) (Nat.zero_le _) rfl rfl rfl (b_Mod_pop (by omega) h) (fun x1 M1 h => ?_)
  refine r_istore (kd213 rfl) L213 (by decide) rfl rfl ?_
  refine r_aload_n (kd213 rfl) rfl rfl ?_
  refine r_iload (kd213 rfl) rfl rfl ?_
  refine r_iload (kd213 rfl) rfl rfl ?_
  refine r_iload (kd213 rfl) rfl rfl ?_
  refine r_callSI (d' := d - 1) (by omega) (kd213 rfl) (by decide) rfl rfl rfl rfl (Nat.le_of_ble_eq_true rfl) rfl L206 (Nat.le_of_ble_eq_true rfl) (Nat.le_of_ble_eq_true rfl) (Nat.zero_le _) (Nat.zero_le _) rfl rfl rfl (b_Mod_reckon (by omega) h) (fun x1 M1 h => ?_)
  obtain ⟨g, h⟩ := h
  refine r_callVV (d' := d - 1) (by omega) (kd213 rfl) (by decide) rfl rfl rfl rfl (Nat.le_of_ble_eq_true rfl) rfl L203 (Nat.le_of_ble_eq_true rfl) (Nat.le_of_ble_eq_true rfl) g (Nat.zero_le _) (Nat.zero_le _) rfl rfl rfl (b_Mod_push (by omega) h) (fun M1 h => ?_)
  exact (b_Mod_act_703 hd h).less e_sn
set_option maxRecDepth 100000 in
def w_Mod_act (l0 : Nat) (l1 : Int32) (l2 : Int32) (l3 : Int32) (l4 : Int32) (l5 : Int32) (l6 : Int32) (M : eM) (Q : eM → Prop) : Prop := (l4 = 0 → e_ob M l0 12 ∧ w_Mod_push l0 (l5.toInt8.toInt32) M (fun (M1 : eM) => w_Mod_act_703 M1 Q)) ∧ (¬ l4 = 0 → (l4 = 1 → e_ob M l0 12 ∧ w_Mod_byteAt l0 l2 (l3 + 2) M (fun (v3 : Int32) (M2 : eM) => e_ob M2 l0 12 ∧ w_Mod_push l0 (((l5 <<< (8 &&& 31)) ||| v3).toInt16.toInt32) M2 (fun (M4 : eM) => w_Mod_act_703 M4 Q))) ∧ (¬ l4 = 1 → (l4 = 2 → e_ob M l0 12 ∧ w_Mod_push l0 0 M (fun (M5 : eM) => w_Mod_act_703 M5 Q)) ∧ (¬ l4 = 2 → (l4 = 3 → e_ob M l0 12 ∧ e_ai M (gr M l0 68) ((8 * l1) + l5) ∧ e_ob M l0 12 ∧ w_Mod_push l0 (gi M (gr M l0 68) ((8 * l1) + l5).toNatClampNeg) M (fun (M6 : eM) => w_Mod_act_703 M6 Q)) ∧ (¬ l4 = 3 → (l4 = 4 → e_ob M l0 12 ∧ e_ob M l0 12 ∧ w_Mod_pop l0 M (fun (v8 : Int32) (M7 : eM) => e_ar M7 (gr M l0 68) 20 ((8 * l1) + l5) ∧ ∀ M9 : eM, M9 = e_si M7 (gr M l0 68) ((8 * l1) + l5).toNatClampNeg v8 → w_Mod_act_703 M9 Q)) ∧ (¬ l4 = 4 → (l4 = 5 → e_ob M l0 12 ∧ w_Mod_pop l0 M (fun (v11 : Int32) (M10 : eM) => w_Mod_act_703 M10 Q)) ∧ (¬ l4 = 5 → (l4 = 6 → e_ob M l0 12 ∧ w_Mod_peek l0 1 M (fun (v13 : Int32) (M12 : eM) => e_ob M12 l0 12 ∧ w_Mod_push l0 v13 M12 (fun (M14 : eM) => w_Mod_act_703 M14 Q))) ∧ (¬ l4 = 6 → (l4 = 7 → e_ob M l0 12 ∧ w_Mod_pop l0 M (fun (v16 : Int32) (M15 : eM) => e_ob M15 l0 12 ∧ w_Mod_pop l0 M15 (fun (v18 : Int32) (M17 : eM) => e_ob M17 l0 12 ∧ w_Mod_push l0 v16 M17 (fun (M19 : eM) => e_ob M19 l0 12 ∧ w_Mod_push l0 v18 M19 (fun (M20 : eM) => w_Mod_act_703 M20 Q))))) ∧ (¬ l4 = 7 → (l4 = 8 → w_Mod_act_678 l0 l4 M Q) ∧ (¬ l4 = 8 → (l4 = 9 → w_Mod_act_678 l0 l4 M Q) ∧ (¬ l4 = 9 → (l4 = 10 → w_Mod_act_678 l0 l4 M Q) ∧ (¬ l4 = 10 → (l4 = 11 → w_Mod_act_678 l0 l4 M Q) ∧ (¬ l4 = 11 → (l4 = 12 → w_Mod_act_678 l0 l4 M Q) ∧ (¬ l4 = 12 → (l4 = 13 → w_Mod_act_678 l0 l4 M Q) ∧ (¬ l4 = 13 → (l4 = 14 → w_Mod_act_678 l0 l4 M Q) ∧ (¬ l4 = 14 → (l4 = 15 → w_Mod_act_678 l0 l4 M Q) ∧ (¬ l4 = 15 → (l4 = 16 → w_Mod_act_678 l0 l4 M Q) ∧ (¬ l4 = 16 → (l4 = 17 → w_Mod_act_678 l0 l4 M Q) ∧ (¬ l4 = 17 → (l4 = 18 → w_Mod_act_678 l0 l4 M Q) ∧ (¬ l4 = 18 → (l4 = 19 → e_ob M l0 12 ∧ w_Mod_pop l0 M (fun (v22 : Int32) (M21 : eM) => e_ob M21 l0 12 ∧ w_Mod_push l0 (-v22) M21 (fun (M23 : eM) => w_Mod_act_703 M23 Q))) ∧ (¬ l4 = 19 → (l4 = 20 → e_ob M l0 12 ∧ e_ai M (gr M l0 68) ((8 * l1) + l5) ∧ e_ob M l0 12 ∧ w_Mod_byteAt l0 l2 (l3 + 2) M (fun (v25 : Int32) (M24 : eM) => e_ar M24 (gr M l0 68) 20 ((8 * l1) + l5) ∧ ∀ M26 : eM, M26 = e_si M24 (gr M l0 68) ((8 * l1) + l5).toNatClampNeg ((gi M (gr M l0 68) ((8 * l1) + l5).toNatClampNeg) + (v25.toInt8.toInt32)) → w_Mod_act_703 M26 Q)) ∧ (¬ l4 = 20 → (l4 = 21 → w_Mod_act_678 l0 l4 M Q) ∧ (¬ l4 = 21 → (l4 = 22 → w_Mod_act_678 l0 l4 M Q) ∧ (¬ l4 = 22 → (l4 = 23 → w_Mod_act_678 l0 l4 M Q) ∧ (¬ l4 = 23 → (l4 = 24 → w_Mod_act_678 l0 l4 M Q) ∧ (¬ l4 = 24 → (l4 = 25 → w_Mod_act_678 l0 l4 M Q) ∧ (¬ l4 = 25 → (l4 = 26 → w_Mod_act_678 l0 l4 M Q) ∧ (¬ l4 = 26 → (l4 = 27 → w_Mod_act_678 l0 l4 M Q) ∧ (¬ l4 = 27 → (l4 = 28 → w_Mod_act_678 l0 l4 M Q) ∧ (¬ l4 = 28 → (l4 = 29 → w_Mod_act_678 l0 l4 M Q) ∧ (¬ l4 = 29 → (l4 = 30 → w_Mod_act_678 l0 l4 M Q) ∧ (¬ l4 = 30 → (l4 = 31 → w_Mod_act_678 l0 l4 M Q) ∧ (¬ l4 = 31 → (l4 = 32 → w_Mod_act_678 l0 l4 M Q) ∧ (¬ l4 = 32 → (l4 = 33 → w_Mod_act_678 l0 l4 M Q) ∧ (¬ l4 = 33 → (l4 = 34 → w_Mod_act_678 l0 l4 M Q) ∧ (¬ l4 = 34 → (l4 = 35 → w_Mod_act_678 l0 l4 M Q) ∧ (¬ l4 = 35 → (l4 = 36 → w_Mod_act_678 l0 l4 M Q) ∧ (¬ l4 = 36 → (l4 = 37 → w_Mod_act_678 l0 l4 M Q) ∧ (¬ l4 = 37 → (l4 = 38 → e_ob M l0 12 ∧ w_Mod_push l0 l6 M (fun (M27 : eM) => w_Mod_act_703 M27 Q)) ∧ (¬ l4 = 38 → (l4 = 39 → e_ob M l0 12 ∧ e_ob M l0 12 ∧ e_ob M l0 12 ∧ w_Mod_pop l0 M (fun (v29 : Int32) (M28 : eM) => e_ob M28 l0 12 ∧ w_Mod_objectOf l0 v29 M28 (fun (v31 : Int32) (M30 : eM) => e_ai M30 (gr M l0 76) v31 ∧ e_ob M30 l0 12 ∧ w_Mod_byteAt l0 l2 (l3 + 2) M30 (fun (v33 : Int32) (M32 : eM) => e_ai M32 (gr M l0 80) ((gi M30 (gr M l0 76) v31.toNatClampNeg) + v33) ∧ e_ob M32 l0 12 ∧ w_Mod_push l0 (gi M32 (gr M l0 80) ((gi M30 (gr M l0 76) v31.toNatClampNeg) + v33).toNatClampNeg) M32 (fun (M34 : eM) => w_Mod_act_703 M34 Q))))) ∧ (¬ l4 = 39 → (l4 = 40 → e_ob M l0 12 ∧ w_Mod_pop l0 M (fun (v36 : Int32) (M35 : eM) => e_ob M35 l0 12 ∧ e_ob M35 l0 12 ∧ e_ob M35 l0 12 ∧ w_Mod_pop l0 M35 (fun (v38 : Int32) (M37 : eM) => e_ob M37 l0 12 ∧ w_Mod_objectOf l0 v38 M37 (fun (v40 : Int32) (M39 : eM) => e_ai M39 (gr M35 l0 76) v40 ∧ e_ob M39 l0 12 ∧ w_Mod_byteAt l0 l2 (l3 + 2) M39 (fun (v42 : Int32) (M41 : eM) => e_ar M41 (gr M35 l0 80) 20 ((gi M39 (gr M35 l0 76) v40.toNatClampNeg) + v42) ∧ ∀ M43 : eM, M43 = e_si M41 (gr M35 l0 80) ((gi M39 (gr M35 l0 76) v40.toNatClampNeg) + v42).toNatClampNeg v36 → w_Mod_act_703 M43 Q))))) ∧ (¬ l4 = 40 → (l4 = 41 → e_ob M l0 12 ∧ w_Mod_pop l0 M (fun (v45 : Int32) (M44 : eM) => e_ob M44 l0 12 ∧ w_Mod_push l0 l6 M44 (fun (M46 : eM) => w_Mod_act_703 M46 Q))) ∧ (¬ l4 = 41 → (l4 = 42 → e_ob M l0 12 ∧ w_Mod_pop l0 M (fun (v48 : Int32) (M47 : eM) => e_ob M47 l0 12 ∧ e_ob M47 l0 12 ∧ e_ob M47 l0 12 ∧ w_Mod_pop l0 M47 (fun (v50 : Int32) (M49 : eM) => e_ob M49 l0 12 ∧ w_Mod_objectOf l0 v50 M49 (fun (v52 : Int32) (M51 : eM) => e_ai M51 (gr M47 l0 76) v52 ∧ e_ai M51 (gr M47 l0 80) ((gi M51 (gr M47 l0 76) v52.toNatClampNeg) + v48) ∧ e_ob M51 l0 12 ∧ w_Mod_push l0 (gi M51 (gr M47 l0 80) ((gi M51 (gr M47 l0 76) v52.toNatClampNeg) + v48).toNatClampNeg) M51 (fun (M53 : eM) => w_Mod_act_703 M53 Q))))) ∧ (¬ l4 = 42 → (l4 = 43 → e_ob M l0 12 ∧ w_Mod_pop l0 M (fun (v55 : Int32) (M54 : eM) => e_ob M54 l0 12 ∧ w_Mod_pop l0 M54 (fun (v57 : Int32) (M56 : eM) => e_ob M56 l0 12 ∧ e_ob M56 l0 12 ∧ e_ob M56 l0 12 ∧ w_Mod_pop l0 M56 (fun (v59 : Int32) (M58 : eM) => e_ob M58 l0 12 ∧ w_Mod_objectOf l0 v59 M58 (fun (v61 : Int32) (M60 : eM) => e_ai M60 (gr M56 l0 76) v61 ∧ e_ar M60 (gr M56 l0 80) 20 ((gi M60 (gr M56 l0 76) v61.toNatClampNeg) + v57) ∧ ∀ M62 : eM, M62 = e_si M60 (gr M56 l0 80) ((gi M60 (gr M56 l0 76) v61.toNatClampNeg) + v57).toNatClampNeg v55 → w_Mod_act_703 M62 Q))))) ∧ (¬ l4 = 43 → (l4 = 44 → e_ob M l0 12 ∧ e_ob M l0 12 ∧ w_Mod_pop l0 M (fun (v64 : Int32) (M63 : eM) => e_ob M63 l0 12 ∧ w_Mod_objectOf l0 v64 M63 (fun (v66 : Int32) (M65 : eM) => e_ai M65 (gr M l0 77) v66 ∧ e_ob M65 l0 12 ∧ w_Mod_push l0 (gi M65 (gr M l0 77) v66.toNatClampNeg) M65 (fun (M67 : eM) => w_Mod_act_703 M67 Q)))) ∧ (¬ l4 = 44 → (l4 = 45 → e_ob M l0 12 ∧ w_Mod_pop l0 M (fun (v69 : Int32) (M68 : eM) => (v69 = 0 → w_Mod_act_617 l0 M68 Q) ∧ (¬ v69 = 0 → e_ob M68 l0 12 ∧ e_ob M68 l0 12 ∧ w_Mod_objectOf l0 v69 M68 (fun (v71 : Int32) (M70 : eM) => e_ai M70 (gr M68 l0 75) v71 ∧ e_ob M70 l0 12 ∧ w_Mod_isOf l0 (gi M70 (gr M68 l0 75) v71.toNatClampNeg) l5 M70 (fun (v73 : Int32) (M72 : eM) => (v73 = 0 → w_Mod_act_617 l0 M72 Q) ∧ (¬ v73 = 0 → w_Mod_act_618 1 l0 M72 Q)))))) ∧ (¬ l4 = 45 → (l4 = 46 → w_Mod_act_703 M Q) ∧ (¬ l4 = 46 → (l4 = 47 → w_Mod_act_678 l0 l4 M Q) ∧ (¬ l4 = 47 → (l4 = 48 → w_Mod_act_678 l0 l4 M Q) ∧ (¬ l4 = 48 → (l4 = 49 → w_Mod_act_678 l0 l4 M Q) ∧ (¬ l4 = 49 → (l4 = 50 → w_Mod_act_678 l0 l4 M Q) ∧ (¬ l4 = 50 → (l4 = 51 → e_ob M l0 12 ∧ w_Mod_pop l0 M (fun (v75 : Int32) (M74 : eM) => e_ob M74 l0 12 ∧ (500 ≤ (gi M74 l0 47) → w_Mod_act_654 l0 M74 Q) ∧ (¬ 500 ≤ (gi M74 l0 47) → e_ob M74 l0 12 ∧ e_ob M74 l0 12 ∧ e_ar M74 (gr M74 l0 48) 20 (gi M74 l0 47) ∧ ∀ M76 : eM, M76 = e_si M74 (gr M74 l0 48) (gi M74 l0 47).toNatClampNeg v75 → w_Mod_act_654 l0 M76 Q))) ∧ (¬ l4 = 51 → (l4 = 52 → e_ob M l0 12 ∧ w_Mod_nextInput l0 M (fun (v78 : Int32) (M77 : eM) => e_ob M77 l0 12 ∧ w_Mod_push l0 v78 M77 (fun (M79 : eM) => w_Mod_act_703 M79 Q))) ∧ (¬ l4 = 52 → w_Mod_act_678 l0 l4 M Q)))))))))))))))))))))))))))))))))))))))))))))))))))))
set_option maxRecDepth 100000 in
theorem b_Mod_act {d : Nat} {l0 : Nat} {l1 : Int32} {l2 : Int32} {l3 : Int32} {l4 : Int32} {l5 : Int32} {l6 : Int32} {M : eM} {Q : eM → Prop} (hd : 2 ≤ d) (h : w_Mod_act l0 l1 l2 l3 l4 l5 l6 M Q) : e_CV 213 d 0 0 [.ref l0, .int l1, .int l2, .int l3, .int l4, .int l5, .int l6] M Q := by
  unfold w_Mod_act at h
  show e_E 213 d 0 0 0 [(0, .ref l0), (1, .int l1), (2, .int l2), (3, .int l3), (4, .int l4), (5, .int l5), (6, .int l6)] [] M (e_QV Q)
  refine r_iload (kd213 rfl) rfl rfl ?_
  refine r_tableswitch (kd213 rfl) (u := 678) (qs := [(0, 228), (1, 238), (2, 260), (3, 268), (4, 287), (5, 306), (6, 315), (7, 327), (8, 678), (9, 678), (10, 678), (11, 678), (12, 678), (13, 678), (14, 678), (15, 678), (16, 678), (17, 678), (18, 678), (19, 354), (20, 366), (21, 678), (22, 678), (23, 678), (24, 678), (25, 678), (26, 678), (27, 678), (28, 678), (29, 678), (30, 678), (31, 678), (32, 678), (33, 678), (34, 678), (35, 678), (36, 678), (37, 678), (38, 393), (39, 402), (40, 436), (41, 474), (42, 489), (43, 523), (44, 561), (45, 581), (46, 624), (47, 678), (48, 678), (49, 678), (50, 678), (51, 627), (52, 667)]) rfl rfl rfl (by decide) ?_
  refine ⟨fun c => ?_, fun c => ?_⟩
  · have h := h.1 c
    refine r_aload_n (kd213 rfl) rfl rfl ?_
    refine r_iload (kd213 rfl) rfl rfl ?_
    refine r_i2b (kd213 rfl) rfl ?_
    obtain ⟨g, h⟩ := h
    refine r_callVV (d' := d - 1) (by omega) (kd213 rfl) (by decide) rfl rfl rfl rfl (Nat.le_of_ble_eq_true rfl) rfl L203 (Nat.le_of_ble_eq_true rfl) (Nat.le_of_ble_eq_true rfl) g (Nat.zero_le _) (Nat.zero_le _) rfl rfl rfl (b_Mod_push (by omega) h) (fun M1 h => ?_)
    refine r_goto (kd213 rfl) ?_
    exact (b_Mod_act_703 hd h).less e_sn
  have h := h.2 c
  refine ⟨fun c => ?_, fun c => ?_⟩
  · have h := h.1 c
    refine r_aload_n (kd213 rfl) rfl rfl ?_
    refine r_iload (kd213 rfl) rfl rfl ?_
    refine r_bipush (kd213 rfl) (y := 8) (by decide) rfl ?_
    refine r_ishl (kd213 rfl) rfl ?_
    refine r_aload_n (kd213 rfl) rfl rfl ?_
    refine r_iload_n (kd213 rfl) rfl rfl ?_
    refine r_iload_n (kd213 rfl) rfl rfl ?_
    refine r_iconst (kd213 rfl) (y := 2) (by decide) rfl ?_
    refine r_iadd (kd213 rfl) rfl ?_
    obtain ⟨g, h⟩ := h
    refine r_callVI (d' := d - 1) (by omega) (kd213 rfl) (by decide) rfl rfl rfl rfl (Nat.le_of_ble_eq_true rfl) rfl L158 (Nat.le_of_ble_eq_true rfl) (Nat.le_of_ble_eq_true rfl) g (Nat.zero_le _) (Nat.zero_le _) rfl rfl rfl (b_Mod_byteAt (by omega) h) (fun x1 M1 h => ?_)
    refine r_ior (kd213 rfl) rfl ?_
    refine r_i2s (kd213 rfl) rfl ?_
    obtain ⟨g, h⟩ := h
    refine r_callVV (d' := d - 1) (by omega) (kd213 rfl) (by decide) rfl rfl rfl rfl (Nat.le_of_ble_eq_true rfl) rfl L203 (Nat.le_of_ble_eq_true rfl) (Nat.le_of_ble_eq_true rfl) g (Nat.zero_le _) (Nat.zero_le _) rfl rfl rfl (b_Mod_push (by omega) h) (fun M1 h => ?_)
    refine r_goto (kd213 rfl) ?_
    exact (b_Mod_act_703 hd h).less e_sn
  have h := h.2 c
  refine ⟨fun c => ?_, fun c => ?_⟩
  · have h := h.1 c
    refine r_aload_n (kd213 rfl) rfl rfl ?_
    refine r_iconst (kd213 rfl) (y := 0) (by decide) rfl ?_
    obtain ⟨g, h⟩ := h
    refine r_callVV (d' := d - 1) (by omega) (kd213 rfl) (by decide) rfl rfl rfl rfl (Nat.le_of_ble_eq_true rfl) rfl L203 (Nat.le_of_ble_eq_true rfl) (Nat.le_of_ble_eq_true rfl) g (Nat.zero_le _) (Nat.zero_le _) rfl rfl rfl (b_Mod_push (by omega) h) (fun M1 h => ?_)
    refine r_goto (kd213 rfl) ?_
    exact (b_Mod_act_703 hd h).less e_sn
  have h := h.2 c
  refine ⟨fun c => ?_, fun c => ?_⟩
  · have h := h.1 c
    refine r_aload_n (kd213 rfl) rfl rfl ?_
    refine r_aload_n (kd213 rfl) rfl rfl ?_
    obtain ⟨g, h⟩ := h
    refine r_get2 (kd213 rfl) (by decide) rfl g rfl ?_
    refine r_bipush (kd213 rfl) (y := 8) (by decide) rfl ?_
    refine r_iload_n (kd213 rfl) rfl rfl ?_
    refine r_imul (kd213 rfl) rfl ?_
    refine r_iload (kd213 rfl) rfl rfl ?_
    refine r_iadd (kd213 rfl) rfl ?_
    obtain ⟨g, h⟩ := h
    refine r_iaload (kd213 rfl) g rfl ?_
    obtain ⟨g, h⟩ := h
    refine r_callVV (d' := d - 1) (by omega) (kd213 rfl) (by decide) rfl rfl rfl rfl (Nat.le_of_ble_eq_true rfl) rfl L203 (Nat.le_of_ble_eq_true rfl) (Nat.le_of_ble_eq_true rfl) g (Nat.zero_le _) (Nat.zero_le _) rfl rfl rfl (b_Mod_push (by omega) h) (fun M1 h => ?_)
    refine r_goto (kd213 rfl) ?_
    exact (b_Mod_act_703 hd h).less e_sn
  have h := h.2 c
  refine ⟨fun c => ?_, fun c => ?_⟩
  · have h := h.1 c
    refine r_aload_n (kd213 rfl) rfl rfl ?_
    obtain ⟨g, h⟩ := h
    refine r_get2 (kd213 rfl) (by decide) rfl g rfl ?_
    refine r_bipush (kd213 rfl) (y := 8) (by decide) rfl ?_
    refine r_iload_n (kd213 rfl) rfl rfl ?_
    refine r_imul (kd213 rfl) rfl ?_
    refine r_iload (kd213 rfl) rfl rfl ?_
    refine r_iadd (kd213 rfl) rfl ?_
    refine r_aload_n (kd213 rfl) rfl rfl ?_
    obtain ⟨g, h⟩ := h
    refine r_callVI (d' := d - 1) (by omega) (kd213 rfl) (by decide) rfl rfl rfl rfl (Nat.le_of_ble_eq_true rfl) rfl L202 (Nat.le_of_ble_eq_true rfl) (Nat.le_of_ble_eq_true rfl) g (Nat.zero_le _) (Nat.zero_le _) rfl rfl rfl (b_Mod_pop (by omega) h) (fun x1 M1 h => ?_)
    obtain ⟨g, h⟩ := h
    have h := h _ rfl
    refine r_iastore (kd213 rfl) g rfl ?_
    refine r_goto (kd213 rfl) ?_
    exact (b_Mod_act_703 hd h).less e_sn
  have h := h.2 c
  refine ⟨fun c => ?_, fun c => ?_⟩
  · have h := h.1 c
    refine r_aload_n (kd213 rfl) rfl rfl ?_
    obtain ⟨g, h⟩ := h
    refine r_callVI (d' := d - 1) (by omega) (kd213 rfl) (by decide) rfl rfl rfl rfl (Nat.le_of_ble_eq_true rfl) rfl L202 (Nat.le_of_ble_eq_true rfl) (Nat.le_of_ble_eq_true rfl) g (Nat.zero_le _) (Nat.zero_le _) rfl rfl rfl (b_Mod_pop (by omega) h) (fun x1 M1 h => ?_)
    refine r_istore (kd213 rfl) L213 (by decide) rfl rfl ?_
    refine r_goto (kd213 rfl) ?_
    exact (b_Mod_act_703 hd h).less e_sn
  have h := h.2 c
  refine ⟨fun c => ?_, fun c => ?_⟩
  · have h := h.1 c
    refine r_aload_n (kd213 rfl) rfl rfl ?_
    refine r_aload_n (kd213 rfl) rfl rfl ?_
    refine r_iconst (kd213 rfl) (y := 1) (by decide) rfl ?_
    obtain ⟨g, h⟩ := h
    refine r_callVI (d' := d - 1) (by omega) (kd213 rfl) (by decide) rfl rfl rfl rfl (Nat.le_of_ble_eq_true rfl) rfl L204 (Nat.le_of_ble_eq_true rfl) (Nat.le_of_ble_eq_true rfl) g (Nat.zero_le _) (Nat.zero_le _) rfl rfl rfl (b_Mod_peek (by omega) h) (fun x1 M1 h => ?_)
    obtain ⟨g, h⟩ := h
    refine r_callVV (d' := d - 1) (by omega) (kd213 rfl) (by decide) rfl rfl rfl rfl (Nat.le_of_ble_eq_true rfl) rfl L203 (Nat.le_of_ble_eq_true rfl) (Nat.le_of_ble_eq_true rfl) g (Nat.zero_le _) (Nat.zero_le _) rfl rfl rfl (b_Mod_push (by omega) h) (fun M1 h => ?_)
    refine r_goto (kd213 rfl) ?_
    exact (b_Mod_act_703 hd h).less e_sn
  have h := h.2 c
  refine ⟨fun c => ?_, fun c => ?_⟩
  · have h := h.1 c
    refine r_aload_n (kd213 rfl) rfl rfl ?_
    obtain ⟨g, h⟩ := h
    refine r_callVI (d' := d - 1) (by omega) (kd213 rfl) (by decide) rfl rfl rfl rfl (Nat.le_of_ble_eq_true rfl) rfl L202 (Nat.le_of_ble_eq_true rfl) (Nat.le_of_ble_eq_true rfl) g (Nat.zero_le _) (Nat.zero_le _) rfl rfl rfl (b_Mod_pop (by omega) h) (fun x1 M1 h => ?_)
    refine r_istore (kd213 rfl) L213 (by decide) rfl rfl ?_
    refine r_aload_n (kd213 rfl) rfl rfl ?_
    obtain ⟨g, h⟩ := h
    refine r_callVI (d' := d - 1) (by omega) (kd213 rfl) (by decide) rfl rfl rfl rfl (Nat.le_of_ble_eq_true rfl) rfl L202 (Nat.le_of_ble_eq_true rfl) (Nat.le_of_ble_eq_true rfl) g (Nat.zero_le _) (Nat.zero_le _) rfl rfl rfl (b_Mod_pop (by omega) h) (fun x1 M1 h => ?_)
    refine r_istore (kd213 rfl) L213 (by decide) rfl rfl ?_
    refine r_aload_n (kd213 rfl) rfl rfl ?_
    refine r_iload (kd213 rfl) rfl rfl ?_
    obtain ⟨g, h⟩ := h
    refine r_callVV (d' := d - 1) (by omega) (kd213 rfl) (by decide) rfl rfl rfl rfl (Nat.le_of_ble_eq_true rfl) rfl L203 (Nat.le_of_ble_eq_true rfl) (Nat.le_of_ble_eq_true rfl) g (Nat.zero_le _) (Nat.zero_le _) rfl rfl rfl (b_Mod_push (by omega) h) (fun M1 h => ?_)
    refine r_aload_n (kd213 rfl) rfl rfl ?_
    refine r_iload (kd213 rfl) rfl rfl ?_
    obtain ⟨g, h⟩ := h
    refine r_callVV (d' := d - 1) (by omega) (kd213 rfl) (by decide) rfl rfl rfl rfl (Nat.le_of_ble_eq_true rfl) rfl L203 (Nat.le_of_ble_eq_true rfl) (Nat.le_of_ble_eq_true rfl) g (Nat.zero_le _) (Nat.zero_le _) rfl rfl rfl (b_Mod_push (by omega) h) (fun M1 h => ?_)
    refine r_goto (kd213 rfl) ?_
    exact (b_Mod_act_703 hd h).less e_sn
  have h := h.2 c
  refine ⟨fun c => ?_, fun c => ?_⟩
  · have h := h.1 c
    exact (b_Mod_act_678 hd h).less (e_sc (List.mem_of_getElem? (i := 0) rfl) (e_sc (List.mem_of_getElem? (i := 4) rfl) e_sn))
  have h := h.2 c
  refine ⟨fun c => ?_, fun c => ?_⟩
  · have h := h.1 c
    exact (b_Mod_act_678 hd h).less (e_sc (List.mem_of_getElem? (i := 0) rfl) (e_sc (List.mem_of_getElem? (i := 4) rfl) e_sn))
  have h := h.2 c
  refine ⟨fun c => ?_, fun c => ?_⟩
  · have h := h.1 c
    exact (b_Mod_act_678 hd h).less (e_sc (List.mem_of_getElem? (i := 0) rfl) (e_sc (List.mem_of_getElem? (i := 4) rfl) e_sn))
  have h := h.2 c
  refine ⟨fun c => ?_, fun c => ?_⟩
  · have h := h.1 c
    exact (b_Mod_act_678 hd h).less (e_sc (List.mem_of_getElem? (i := 0) rfl) (e_sc (List.mem_of_getElem? (i := 4) rfl) e_sn))
  have h := h.2 c
  refine ⟨fun c => ?_, fun c => ?_⟩
  · have h := h.1 c
    exact (b_Mod_act_678 hd h).less (e_sc (List.mem_of_getElem? (i := 0) rfl) (e_sc (List.mem_of_getElem? (i := 4) rfl) e_sn))
  have h := h.2 c
  refine ⟨fun c => ?_, fun c => ?_⟩
  · have h := h.1 c
    exact (b_Mod_act_678 hd h).less (e_sc (List.mem_of_getElem? (i := 0) rfl) (e_sc (List.mem_of_getElem? (i := 4) rfl) e_sn))
  have h := h.2 c
  refine ⟨fun c => ?_, fun c => ?_⟩
  · have h := h.1 c
    exact (b_Mod_act_678 hd h).less (e_sc (List.mem_of_getElem? (i := 0) rfl) (e_sc (List.mem_of_getElem? (i := 4) rfl) e_sn))
  have h := h.2 c
  refine ⟨fun c => ?_, fun c => ?_⟩
  · have h := h.1 c
    exact (b_Mod_act_678 hd h).less (e_sc (List.mem_of_getElem? (i := 0) rfl) (e_sc (List.mem_of_getElem? (i := 4) rfl) e_sn))
  have h := h.2 c
  refine ⟨fun c => ?_, fun c => ?_⟩
  · have h := h.1 c
    exact (b_Mod_act_678 hd h).less (e_sc (List.mem_of_getElem? (i := 0) rfl) (e_sc (List.mem_of_getElem? (i := 4) rfl) e_sn))
  have h := h.2 c
  refine ⟨fun c => ?_, fun c => ?_⟩
  · have h := h.1 c
    exact (b_Mod_act_678 hd h).less (e_sc (List.mem_of_getElem? (i := 0) rfl) (e_sc (List.mem_of_getElem? (i := 4) rfl) e_sn))
  have h := h.2 c
  refine ⟨fun c => ?_, fun c => ?_⟩
  · have h := h.1 c
    exact (b_Mod_act_678 hd h).less (e_sc (List.mem_of_getElem? (i := 0) rfl) (e_sc (List.mem_of_getElem? (i := 4) rfl) e_sn))
  have h := h.2 c
  refine ⟨fun c => ?_, fun c => ?_⟩
  · have h := h.1 c
    refine r_aload_n (kd213 rfl) rfl rfl ?_
    refine r_aload_n (kd213 rfl) rfl rfl ?_
    obtain ⟨g, h⟩ := h
    refine r_callVI (d' := d - 1) (by omega) (kd213 rfl) (by decide) rfl rfl rfl rfl (Nat.le_of_ble_eq_true rfl) rfl L202 (Nat.le_of_ble_eq_true rfl) (Nat.le_of_ble_eq_true rfl) g (Nat.zero_le _) (Nat.zero_le _) rfl rfl rfl (b_Mod_pop (by omega) h) (fun x1 M1 h => ?_)
    refine r_ineg (kd213 rfl) rfl ?_
    obtain ⟨g, h⟩ := h
    refine r_callVV (d' := d - 1) (by omega) (kd213 rfl) (by decide) rfl rfl rfl rfl (Nat.le_of_ble_eq_true rfl) rfl L203 (Nat.le_of_ble_eq_true rfl) (Nat.le_of_ble_eq_true rfl) g (Nat.zero_le _) (Nat.zero_le _) rfl rfl rfl (b_Mod_push (by omega) h) (fun M1 h => ?_)
    refine r_goto (kd213 rfl) ?_
    exact (b_Mod_act_703 hd h).less e_sn
  have h := h.2 c
  refine ⟨fun c => ?_, fun c => ?_⟩
  · have h := h.1 c
    refine r_aload_n (kd213 rfl) rfl rfl ?_
    obtain ⟨g, h⟩ := h
    refine r_get2 (kd213 rfl) (by decide) rfl g rfl ?_
    refine r_bipush (kd213 rfl) (y := 8) (by decide) rfl ?_
    refine r_iload_n (kd213 rfl) rfl rfl ?_
    refine r_imul (kd213 rfl) rfl ?_
    refine r_iload (kd213 rfl) rfl rfl ?_
    refine r_iadd (kd213 rfl) rfl ?_
    refine r_dup2 (kd213 rfl) rfl rfl rfl ?_
    obtain ⟨g, h⟩ := h
    refine r_iaload (kd213 rfl) g rfl ?_
    refine r_aload_n (kd213 rfl) rfl rfl ?_
    refine r_iload_n (kd213 rfl) rfl rfl ?_
    refine r_iload_n (kd213 rfl) rfl rfl ?_
    refine r_iconst (kd213 rfl) (y := 2) (by decide) rfl ?_
    refine r_iadd (kd213 rfl) rfl ?_
    obtain ⟨g, h⟩ := h
    refine r_callVI (d' := d - 1) (by omega) (kd213 rfl) (by decide) rfl rfl rfl rfl (Nat.le_of_ble_eq_true rfl) rfl L158 (Nat.le_of_ble_eq_true rfl) (Nat.le_of_ble_eq_true rfl) g (Nat.zero_le _) (Nat.zero_le _) rfl rfl rfl (b_Mod_byteAt (by omega) h) (fun x1 M1 h => ?_)
    refine r_i2b (kd213 rfl) rfl ?_
    refine r_iadd (kd213 rfl) rfl ?_
    obtain ⟨g, h⟩ := h
    have h := h _ rfl
    refine r_iastore (kd213 rfl) g rfl ?_
    refine r_goto (kd213 rfl) ?_
    exact (b_Mod_act_703 hd h).less e_sn
  have h := h.2 c
  refine ⟨fun c => ?_, fun c => ?_⟩
  · have h := h.1 c
    exact (b_Mod_act_678 hd h).less (e_sc (List.mem_of_getElem? (i := 0) rfl) (e_sc (List.mem_of_getElem? (i := 4) rfl) e_sn))
  have h := h.2 c
  refine ⟨fun c => ?_, fun c => ?_⟩
  · have h := h.1 c
    exact (b_Mod_act_678 hd h).less (e_sc (List.mem_of_getElem? (i := 0) rfl) (e_sc (List.mem_of_getElem? (i := 4) rfl) e_sn))
  have h := h.2 c
  refine ⟨fun c => ?_, fun c => ?_⟩
  · have h := h.1 c
    exact (b_Mod_act_678 hd h).less (e_sc (List.mem_of_getElem? (i := 0) rfl) (e_sc (List.mem_of_getElem? (i := 4) rfl) e_sn))
  have h := h.2 c
  refine ⟨fun c => ?_, fun c => ?_⟩
  · have h := h.1 c
    exact (b_Mod_act_678 hd h).less (e_sc (List.mem_of_getElem? (i := 0) rfl) (e_sc (List.mem_of_getElem? (i := 4) rfl) e_sn))
  have h := h.2 c
  refine ⟨fun c => ?_, fun c => ?_⟩
  · have h := h.1 c
    exact (b_Mod_act_678 hd h).less (e_sc (List.mem_of_getElem? (i := 0) rfl) (e_sc (List.mem_of_getElem? (i := 4) rfl) e_sn))
  have h := h.2 c
  refine ⟨fun c => ?_, fun c => ?_⟩
  · have h := h.1 c
    exact (b_Mod_act_678 hd h).less (e_sc (List.mem_of_getElem? (i := 0) rfl) (e_sc (List.mem_of_getElem? (i := 4) rfl) e_sn))
  have h := h.2 c
  refine ⟨fun c => ?_, fun c => ?_⟩
  · have h := h.1 c
    exact (b_Mod_act_678 hd h).less (e_sc (List.mem_of_getElem? (i := 0) rfl) (e_sc (List.mem_of_getElem? (i := 4) rfl) e_sn))
  have h := h.2 c
  refine ⟨fun c => ?_, fun c => ?_⟩
  · have h := h.1 c
    exact (b_Mod_act_678 hd h).less (e_sc (List.mem_of_getElem? (i := 0) rfl) (e_sc (List.mem_of_getElem? (i := 4) rfl) e_sn))
  have h := h.2 c
  refine ⟨fun c => ?_, fun c => ?_⟩
  · have h := h.1 c
    exact (b_Mod_act_678 hd h).less (e_sc (List.mem_of_getElem? (i := 0) rfl) (e_sc (List.mem_of_getElem? (i := 4) rfl) e_sn))
  have h := h.2 c
  refine ⟨fun c => ?_, fun c => ?_⟩
  · have h := h.1 c
    exact (b_Mod_act_678 hd h).less (e_sc (List.mem_of_getElem? (i := 0) rfl) (e_sc (List.mem_of_getElem? (i := 4) rfl) e_sn))
  have h := h.2 c
  refine ⟨fun c => ?_, fun c => ?_⟩
  · have h := h.1 c
    exact (b_Mod_act_678 hd h).less (e_sc (List.mem_of_getElem? (i := 0) rfl) (e_sc (List.mem_of_getElem? (i := 4) rfl) e_sn))
  have h := h.2 c
  refine ⟨fun c => ?_, fun c => ?_⟩
  · have h := h.1 c
    exact (b_Mod_act_678 hd h).less (e_sc (List.mem_of_getElem? (i := 0) rfl) (e_sc (List.mem_of_getElem? (i := 4) rfl) e_sn))
  have h := h.2 c
  refine ⟨fun c => ?_, fun c => ?_⟩
  · have h := h.1 c
    exact (b_Mod_act_678 hd h).less (e_sc (List.mem_of_getElem? (i := 0) rfl) (e_sc (List.mem_of_getElem? (i := 4) rfl) e_sn))
  have h := h.2 c
  refine ⟨fun c => ?_, fun c => ?_⟩
  · have h := h.1 c
    exact (b_Mod_act_678 hd h).less (e_sc (List.mem_of_getElem? (i := 0) rfl) (e_sc (List.mem_of_getElem? (i := 4) rfl) e_sn))
  have h := h.2 c
  refine ⟨fun c => ?_, fun c => ?_⟩
  · have h := h.1 c
    exact (b_Mod_act_678 hd h).less (e_sc (List.mem_of_getElem? (i := 0) rfl) (e_sc (List.mem_of_getElem? (i := 4) rfl) e_sn))
  have h := h.2 c
  refine ⟨fun c => ?_, fun c => ?_⟩
  · have h := h.1 c
    exact (b_Mod_act_678 hd h).less (e_sc (List.mem_of_getElem? (i := 0) rfl) (e_sc (List.mem_of_getElem? (i := 4) rfl) e_sn))
  have h := h.2 c
  refine ⟨fun c => ?_, fun c => ?_⟩
  · have h := h.1 c
    exact (b_Mod_act_678 hd h).less (e_sc (List.mem_of_getElem? (i := 0) rfl) (e_sc (List.mem_of_getElem? (i := 4) rfl) e_sn))
  have h := h.2 c
  refine ⟨fun c => ?_, fun c => ?_⟩
  · have h := h.1 c
    refine r_aload_n (kd213 rfl) rfl rfl ?_
    refine r_iload (kd213 rfl) rfl rfl ?_
    obtain ⟨g, h⟩ := h
    refine r_callVV (d' := d - 1) (by omega) (kd213 rfl) (by decide) rfl rfl rfl rfl (Nat.le_of_ble_eq_true rfl) rfl L203 (Nat.le_of_ble_eq_true rfl) (Nat.le_of_ble_eq_true rfl) g (Nat.zero_le _) (Nat.zero_le _) rfl rfl rfl (b_Mod_push (by omega) h) (fun M1 h => ?_)
    refine r_goto (kd213 rfl) ?_
    exact (b_Mod_act_703 hd h).less e_sn
  have h := h.2 c
  refine ⟨fun c => ?_, fun c => ?_⟩
  · have h := h.1 c
    refine r_aload_n (kd213 rfl) rfl rfl ?_
    refine r_aload_n (kd213 rfl) rfl rfl ?_
    obtain ⟨g, h⟩ := h
    refine r_get2 (kd213 rfl) (by decide) rfl g rfl ?_
    refine r_aload_n (kd213 rfl) rfl rfl ?_
    obtain ⟨g, h⟩ := h
    refine r_get2 (kd213 rfl) (by decide) rfl g rfl ?_
    refine r_aload_n (kd213 rfl) rfl rfl ?_
    refine r_aload_n (kd213 rfl) rfl rfl ?_
    obtain ⟨g, h⟩ := h
    refine r_callVI (d' := d - 1) (by omega) (kd213 rfl) (by decide) rfl rfl rfl rfl (Nat.le_of_ble_eq_true rfl) rfl L202 (Nat.le_of_ble_eq_true rfl) (Nat.le_of_ble_eq_true rfl) g (Nat.zero_le _) (Nat.zero_le _) rfl rfl rfl (b_Mod_pop (by omega) h) (fun x1 M1 h => ?_)
    obtain ⟨g, h⟩ := h
    refine r_callVI (d' := d - 1) (by omega) (kd213 rfl) (by decide) rfl rfl rfl rfl (Nat.le_of_ble_eq_true rfl) rfl L195 (Nat.le_of_ble_eq_true rfl) (Nat.le_of_ble_eq_true rfl) g (Nat.zero_le _) (Nat.zero_le _) rfl rfl rfl (b_Mod_objectOf (by omega) h) (fun x1 M1 h => ?_)
    obtain ⟨g, h⟩ := h
    refine r_iaload (kd213 rfl) g rfl ?_
    refine r_aload_n (kd213 rfl) rfl rfl ?_
    refine r_iload_n (kd213 rfl) rfl rfl ?_
    refine r_iload_n (kd213 rfl) rfl rfl ?_
    refine r_iconst (kd213 rfl) (y := 2) (by decide) rfl ?_
    refine r_iadd (kd213 rfl) rfl ?_
    obtain ⟨g, h⟩ := h
    refine r_callVI (d' := d - 1) (by omega) (kd213 rfl) (by decide) rfl rfl rfl rfl (Nat.le_of_ble_eq_true rfl) rfl L158 (Nat.le_of_ble_eq_true rfl) (Nat.le_of_ble_eq_true rfl) g (Nat.zero_le _) (Nat.zero_le _) rfl rfl rfl (b_Mod_byteAt (by omega) h) (fun x1 M1 h => ?_)
    refine r_iadd (kd213 rfl) rfl ?_
    obtain ⟨g, h⟩ := h
    refine r_iaload (kd213 rfl) g rfl ?_
    obtain ⟨g, h⟩ := h
    refine r_callVV (d' := d - 1) (by omega) (kd213 rfl) (by decide) rfl rfl rfl rfl (Nat.le_of_ble_eq_true rfl) rfl L203 (Nat.le_of_ble_eq_true rfl) (Nat.le_of_ble_eq_true rfl) g (Nat.zero_le _) (Nat.zero_le _) rfl rfl rfl (b_Mod_push (by omega) h) (fun M1 h => ?_)
    refine r_goto (kd213 rfl) ?_
    exact (b_Mod_act_703 hd h).less e_sn
  have h := h.2 c
  refine ⟨fun c => ?_, fun c => ?_⟩
  · have h := h.1 c
    refine r_aload_n (kd213 rfl) rfl rfl ?_
    obtain ⟨g, h⟩ := h
    refine r_callVI (d' := d - 1) (by omega) (kd213 rfl) (by decide) rfl rfl rfl rfl (Nat.le_of_ble_eq_true rfl) rfl L202 (Nat.le_of_ble_eq_true rfl) (Nat.le_of_ble_eq_true rfl) g (Nat.zero_le _) (Nat.zero_le _) rfl rfl rfl (b_Mod_pop (by omega) h) (fun x1 M1 h => ?_)
    refine r_istore (kd213 rfl) L213 (by decide) rfl rfl ?_
    refine r_aload_n (kd213 rfl) rfl rfl ?_
    obtain ⟨g, h⟩ := h
    refine r_get2 (kd213 rfl) (by decide) rfl g rfl ?_
    refine r_aload_n (kd213 rfl) rfl rfl ?_
    obtain ⟨g, h⟩ := h
    refine r_get2 (kd213 rfl) (by decide) rfl g rfl ?_
    refine r_aload_n (kd213 rfl) rfl rfl ?_
    refine r_aload_n (kd213 rfl) rfl rfl ?_
    obtain ⟨g, h⟩ := h
    refine r_callVI (d' := d - 1) (by omega) (kd213 rfl) (by decide) rfl rfl rfl rfl (Nat.le_of_ble_eq_true rfl) rfl L202 (Nat.le_of_ble_eq_true rfl) (Nat.le_of_ble_eq_true rfl) g (Nat.zero_le _) (Nat.zero_le _) rfl rfl rfl (b_Mod_pop (by omega) h) (fun x1 M1 h => ?_)
    obtain ⟨g, h⟩ := h
    refine r_callVI (d' := d - 1) (by omega) (kd213 rfl) (by decide) rfl rfl rfl rfl (Nat.le_of_ble_eq_true rfl) rfl L195 (Nat.le_of_ble_eq_true rfl) (Nat.le_of_ble_eq_true rfl) g (Nat.zero_le _) (Nat.zero_le _) rfl rfl rfl (b_Mod_objectOf (by omega) h) (fun x1 M1 h => ?_)
    obtain ⟨g, h⟩ := h
    refine r_iaload (kd213 rfl) g rfl ?_
    refine r_aload_n (kd213 rfl) rfl rfl ?_
    refine r_iload_n (kd213 rfl) rfl rfl ?_
    refine r_iload_n (kd213 rfl) rfl rfl ?_
    refine r_iconst (kd213 rfl) (y := 2) (by decide) rfl ?_
    refine r_iadd (kd213 rfl) rfl ?_
    obtain ⟨g, h⟩ := h
    refine r_callVI (d' := d - 1) (by omega) (kd213 rfl) (by decide) rfl rfl rfl rfl (Nat.le_of_ble_eq_true rfl) rfl L158 (Nat.le_of_ble_eq_true rfl) (Nat.le_of_ble_eq_true rfl) g (Nat.zero_le _) (Nat.zero_le _) rfl rfl rfl (b_Mod_byteAt (by omega) h) (fun x1 M1 h => ?_)
    refine r_iadd (kd213 rfl) rfl ?_
    refine r_iload (kd213 rfl) rfl rfl ?_
    obtain ⟨g, h⟩ := h
    have h := h _ rfl
    refine r_iastore (kd213 rfl) g rfl ?_
    refine r_goto (kd213 rfl) ?_
    exact (b_Mod_act_703 hd h).less e_sn
  have h := h.2 c
  refine ⟨fun c => ?_, fun c => ?_⟩
  · have h := h.1 c
    refine r_aload_n (kd213 rfl) rfl rfl ?_
    obtain ⟨g, h⟩ := h
    refine r_callVI (d' := d - 1) (by omega) (kd213 rfl) (by decide) rfl rfl rfl rfl (Nat.le_of_ble_eq_true rfl) rfl L202 (Nat.le_of_ble_eq_true rfl) (Nat.le_of_ble_eq_true rfl) g (Nat.zero_le _) (Nat.zero_le _) rfl rfl rfl (b_Mod_pop (by omega) h) (fun x1 M1 h => ?_)
    refine r_istore (kd213 rfl) L213 (by decide) rfl rfl ?_
    refine r_aload_n (kd213 rfl) rfl rfl ?_
    refine r_iload (kd213 rfl) rfl rfl ?_
    obtain ⟨g, h⟩ := h
    refine r_callVV (d' := d - 1) (by omega) (kd213 rfl) (by decide) rfl rfl rfl rfl (Nat.le_of_ble_eq_true rfl) rfl L203 (Nat.le_of_ble_eq_true rfl) (Nat.le_of_ble_eq_true rfl) g (Nat.zero_le _) (Nat.zero_le _) rfl rfl rfl (b_Mod_push (by omega) h) (fun M1 h => ?_)
    refine r_goto (kd213 rfl) ?_
    exact (b_Mod_act_703 hd h).less e_sn
  have h := h.2 c
  refine ⟨fun c => ?_, fun c => ?_⟩
  · have h := h.1 c
    refine r_aload_n (kd213 rfl) rfl rfl ?_
    obtain ⟨g, h⟩ := h
    refine r_callVI (d' := d - 1) (by omega) (kd213 rfl) (by decide) rfl rfl rfl rfl (Nat.le_of_ble_eq_true rfl) rfl L202 (Nat.le_of_ble_eq_true rfl) (Nat.le_of_ble_eq_true rfl) g (Nat.zero_le _) (Nat.zero_le _) rfl rfl rfl (b_Mod_pop (by omega) h) (fun x1 M1 h => ?_)
    refine r_istore (kd213 rfl) L213 (by decide) rfl rfl ?_
    refine r_aload_n (kd213 rfl) rfl rfl ?_
    refine r_aload_n (kd213 rfl) rfl rfl ?_
    obtain ⟨g, h⟩ := h
    refine r_get2 (kd213 rfl) (by decide) rfl g rfl ?_
    refine r_aload_n (kd213 rfl) rfl rfl ?_
    obtain ⟨g, h⟩ := h
    refine r_get2 (kd213 rfl) (by decide) rfl g rfl ?_
    refine r_aload_n (kd213 rfl) rfl rfl ?_
    refine r_aload_n (kd213 rfl) rfl rfl ?_
    obtain ⟨g, h⟩ := h
    refine r_callVI (d' := d - 1) (by omega) (kd213 rfl) (by decide) rfl rfl rfl rfl (Nat.le_of_ble_eq_true rfl) rfl L202 (Nat.le_of_ble_eq_true rfl) (Nat.le_of_ble_eq_true rfl) g (Nat.zero_le _) (Nat.zero_le _) rfl rfl rfl (b_Mod_pop (by omega) h) (fun x1 M1 h => ?_)
    obtain ⟨g, h⟩ := h
    refine r_callVI (d' := d - 1) (by omega) (kd213 rfl) (by decide) rfl rfl rfl rfl (Nat.le_of_ble_eq_true rfl) rfl L195 (Nat.le_of_ble_eq_true rfl) (Nat.le_of_ble_eq_true rfl) g (Nat.zero_le _) (Nat.zero_le _) rfl rfl rfl (b_Mod_objectOf (by omega) h) (fun x1 M1 h => ?_)
    obtain ⟨g, h⟩ := h
    refine r_iaload (kd213 rfl) g rfl ?_
    refine r_iload (kd213 rfl) rfl rfl ?_
    refine r_iadd (kd213 rfl) rfl ?_
    obtain ⟨g, h⟩ := h
    refine r_iaload (kd213 rfl) g rfl ?_
    obtain ⟨g, h⟩ := h
    refine r_callVV (d' := d - 1) (by omega) (kd213 rfl) (by decide) rfl rfl rfl rfl (Nat.le_of_ble_eq_true rfl) rfl L203 (Nat.le_of_ble_eq_true rfl) (Nat.le_of_ble_eq_true rfl) g (Nat.zero_le _) (Nat.zero_le _) rfl rfl rfl (b_Mod_push (by omega) h) (fun M1 h => ?_)
    refine r_goto (kd213 rfl) ?_
    exact (b_Mod_act_703 hd h).less e_sn
  have h := h.2 c
  refine ⟨fun c => ?_, fun c => ?_⟩
  · have h := h.1 c
    refine r_aload_n (kd213 rfl) rfl rfl ?_
    obtain ⟨g, h⟩ := h
    refine r_callVI (d' := d - 1) (by omega) (kd213 rfl) (by decide) rfl rfl rfl rfl (Nat.le_of_ble_eq_true rfl) rfl L202 (Nat.le_of_ble_eq_true rfl) (Nat.le_of_ble_eq_true rfl) g (Nat.zero_le _) (Nat.zero_le _) rfl rfl rfl (b_Mod_pop (by omega) h) (fun x1 M1 h => ?_)
    refine r_istore (kd213 rfl) L213 (by decide) rfl rfl ?_
    refine r_aload_n (kd213 rfl) rfl rfl ?_
    obtain ⟨g, h⟩ := h
    refine r_callVI (d' := d - 1) (by omega) (kd213 rfl) (by decide) rfl rfl rfl rfl (Nat.le_of_ble_eq_true rfl) rfl L202 (Nat.le_of_ble_eq_true rfl) (Nat.le_of_ble_eq_true rfl) g (Nat.zero_le _) (Nat.zero_le _) rfl rfl rfl (b_Mod_pop (by omega) h) (fun x1 M1 h => ?_)
    refine r_istore (kd213 rfl) L213 (by decide) rfl rfl ?_
    refine r_aload_n (kd213 rfl) rfl rfl ?_
    obtain ⟨g, h⟩ := h
    refine r_get2 (kd213 rfl) (by decide) rfl g rfl ?_
    refine r_aload_n (kd213 rfl) rfl rfl ?_
    obtain ⟨g, h⟩ := h
    refine r_get2 (kd213 rfl) (by decide) rfl g rfl ?_
    refine r_aload_n (kd213 rfl) rfl rfl ?_
    refine r_aload_n (kd213 rfl) rfl rfl ?_
    obtain ⟨g, h⟩ := h
    refine r_callVI (d' := d - 1) (by omega) (kd213 rfl) (by decide) rfl rfl rfl rfl (Nat.le_of_ble_eq_true rfl) rfl L202 (Nat.le_of_ble_eq_true rfl) (Nat.le_of_ble_eq_true rfl) g (Nat.zero_le _) (Nat.zero_le _) rfl rfl rfl (b_Mod_pop (by omega) h) (fun x1 M1 h => ?_)
    obtain ⟨g, h⟩ := h
    refine r_callVI (d' := d - 1) (by omega) (kd213 rfl) (by decide) rfl rfl rfl rfl (Nat.le_of_ble_eq_true rfl) rfl L195 (Nat.le_of_ble_eq_true rfl) (Nat.le_of_ble_eq_true rfl) g (Nat.zero_le _) (Nat.zero_le _) rfl rfl rfl (b_Mod_objectOf (by omega) h) (fun x1 M1 h => ?_)
    obtain ⟨g, h⟩ := h
    refine r_iaload (kd213 rfl) g rfl ?_
    refine r_iload (kd213 rfl) rfl rfl ?_
    refine r_iadd (kd213 rfl) rfl ?_
    refine r_iload (kd213 rfl) rfl rfl ?_
    obtain ⟨g, h⟩ := h
    have h := h _ rfl
    refine r_iastore (kd213 rfl) g rfl ?_
    refine r_goto (kd213 rfl) ?_
    exact (b_Mod_act_703 hd h).less e_sn
  have h := h.2 c
  refine ⟨fun c => ?_, fun c => ?_⟩
  · have h := h.1 c
    refine r_aload_n (kd213 rfl) rfl rfl ?_
    refine r_aload_n (kd213 rfl) rfl rfl ?_
    obtain ⟨g, h⟩ := h
    refine r_get2 (kd213 rfl) (by decide) rfl g rfl ?_
    refine r_aload_n (kd213 rfl) rfl rfl ?_
    refine r_aload_n (kd213 rfl) rfl rfl ?_
    obtain ⟨g, h⟩ := h
    refine r_callVI (d' := d - 1) (by omega) (kd213 rfl) (by decide) rfl rfl rfl rfl (Nat.le_of_ble_eq_true rfl) rfl L202 (Nat.le_of_ble_eq_true rfl) (Nat.le_of_ble_eq_true rfl) g (Nat.zero_le _) (Nat.zero_le _) rfl rfl rfl (b_Mod_pop (by omega) h) (fun x1 M1 h => ?_)
    obtain ⟨g, h⟩ := h
    refine r_callVI (d' := d - 1) (by omega) (kd213 rfl) (by decide) rfl rfl rfl rfl (Nat.le_of_ble_eq_true rfl) rfl L195 (Nat.le_of_ble_eq_true rfl) (Nat.le_of_ble_eq_true rfl) g (Nat.zero_le _) (Nat.zero_le _) rfl rfl rfl (b_Mod_objectOf (by omega) h) (fun x1 M1 h => ?_)
    obtain ⟨g, h⟩ := h
    refine r_iaload (kd213 rfl) g rfl ?_
    obtain ⟨g, h⟩ := h
    refine r_callVV (d' := d - 1) (by omega) (kd213 rfl) (by decide) rfl rfl rfl rfl (Nat.le_of_ble_eq_true rfl) rfl L203 (Nat.le_of_ble_eq_true rfl) (Nat.le_of_ble_eq_true rfl) g (Nat.zero_le _) (Nat.zero_le _) rfl rfl rfl (b_Mod_push (by omega) h) (fun M1 h => ?_)
    refine r_goto (kd213 rfl) ?_
    exact (b_Mod_act_703 hd h).less e_sn
  have h := h.2 c
  refine ⟨fun c => ?_, fun c => ?_⟩
  · have h := h.1 c
    refine r_aload_n (kd213 rfl) rfl rfl ?_
    obtain ⟨g, h⟩ := h
    refine r_callVI (d' := d - 1) (by omega) (kd213 rfl) (by decide) rfl rfl rfl rfl (Nat.le_of_ble_eq_true rfl) rfl L202 (Nat.le_of_ble_eq_true rfl) (Nat.le_of_ble_eq_true rfl) g (Nat.zero_le _) (Nat.zero_le _) rfl rfl rfl (b_Mod_pop (by omega) h) (fun x1 M1 h => ?_)
    refine r_istore (kd213 rfl) L213 (by decide) rfl rfl ?_
    refine r_aload_n (kd213 rfl) rfl rfl ?_
    refine r_iload (kd213 rfl) rfl rfl ?_
    refine r_if_eq (kd213 rfl) rfl (fun c => ?_) (fun c => ?_)
    · have h := h.1 c
      exact (b_Mod_act_617 hd h).less e_sn
    · have h := h.2 c
      refine r_aload_n (kd213 rfl) rfl rfl ?_
      refine r_aload_n (kd213 rfl) rfl rfl ?_
      obtain ⟨g, h⟩ := h
      refine r_get2 (kd213 rfl) (by decide) rfl g rfl ?_
      refine r_aload_n (kd213 rfl) rfl rfl ?_
      refine r_iload (kd213 rfl) rfl rfl ?_
      obtain ⟨g, h⟩ := h
      refine r_callVI (d' := d - 1) (by omega) (kd213 rfl) (by decide) rfl rfl rfl rfl (Nat.le_of_ble_eq_true rfl) rfl L195 (Nat.le_of_ble_eq_true rfl) (Nat.le_of_ble_eq_true rfl) g (Nat.zero_le _) (Nat.zero_le _) rfl rfl rfl (b_Mod_objectOf (by omega) h) (fun x1 M1 h => ?_)
      obtain ⟨g, h⟩ := h
      refine r_iaload (kd213 rfl) g rfl ?_
      refine r_iload (kd213 rfl) rfl rfl ?_
      obtain ⟨g, h⟩ := h
      refine r_callVI (d' := d - 1) (by omega) (kd213 rfl) (by decide) rfl rfl rfl rfl (Nat.le_of_ble_eq_true rfl) rfl L153 (Nat.le_of_ble_eq_true rfl) (Nat.le_of_ble_eq_true rfl) g (Nat.zero_le _) (Nat.zero_le _) rfl rfl rfl (b_Mod_isOf (by omega) h) (fun x1 M1 h => ?_)
      refine r_if_eq (kd213 rfl) rfl (fun c => ?_) (fun c => ?_)
      · have h := h.1 c
        exact (b_Mod_act_617 hd h).less e_sn
      · have h := h.2 c
        refine r_iconst (kd213 rfl) (y := 1) (by decide) rfl ?_
        refine r_goto (kd213 rfl) ?_
        exact (b_Mod_act_618 hd h).less e_sn
  have h := h.2 c
  refine ⟨fun c => ?_, fun c => ?_⟩
  · have h := h.1 c
    refine r_goto (kd213 rfl) ?_
    exact (b_Mod_act_703 hd h).less e_sn
  have h := h.2 c
  refine ⟨fun c => ?_, fun c => ?_⟩
  · have h := h.1 c
    exact (b_Mod_act_678 hd h).less (e_sc (List.mem_of_getElem? (i := 0) rfl) (e_sc (List.mem_of_getElem? (i := 4) rfl) e_sn))
  have h := h.2 c
  refine ⟨fun c => ?_, fun c => ?_⟩
  · have h := h.1 c
    exact (b_Mod_act_678 hd h).less (e_sc (List.mem_of_getElem? (i := 0) rfl) (e_sc (List.mem_of_getElem? (i := 4) rfl) e_sn))
  have h := h.2 c
  refine ⟨fun c => ?_, fun c => ?_⟩
  · have h := h.1 c
    exact (b_Mod_act_678 hd h).less (e_sc (List.mem_of_getElem? (i := 0) rfl) (e_sc (List.mem_of_getElem? (i := 4) rfl) e_sn))
  have h := h.2 c
  refine ⟨fun c => ?_, fun c => ?_⟩
  · have h := h.1 c
    exact (b_Mod_act_678 hd h).less (e_sc (List.mem_of_getElem? (i := 0) rfl) (e_sc (List.mem_of_getElem? (i := 4) rfl) e_sn))
  have h := h.2 c
  refine ⟨fun c => ?_, fun c => ?_⟩
  · have h := h.1 c
    refine r_aload_n (kd213 rfl) rfl rfl ?_
    obtain ⟨g, h⟩ := h
    refine r_callVI (d' := d - 1) (by omega) (kd213 rfl) (by decide) rfl rfl rfl rfl (Nat.le_of_ble_eq_true rfl) rfl L202 (Nat.le_of_ble_eq_true rfl) (Nat.le_of_ble_eq_true rfl) g (Nat.zero_le _) (Nat.zero_le _) rfl rfl rfl (b_Mod_pop (by omega) h) (fun x1 M1 h => ?_)
    refine r_istore (kd213 rfl) L213 (by decide) rfl rfl ?_
    refine r_aload_n (kd213 rfl) rfl rfl ?_
    obtain ⟨g, h⟩ := h
    refine r_get0 (kd213 rfl) (by decide) rfl g rfl ?_
    refine r_sipush (kd213 rfl) (y := 500) (by decide) rfl ?_
    refine r_icmp_ge (kd213 rfl) rfl (fun c => ?_) (fun c => ?_)
    · have h := h.1 c
      exact (b_Mod_act_654 hd h).less (e_sc (List.mem_of_getElem? (i := 1) rfl) e_sn)
    · have h := h.2 c
      refine r_aload_n (kd213 rfl) rfl rfl ?_
      obtain ⟨g, h⟩ := h
      refine r_get2 (kd213 rfl) (by decide) rfl g rfl ?_
      refine r_aload_n (kd213 rfl) rfl rfl ?_
      obtain ⟨g, h⟩ := h
      refine r_get0 (kd213 rfl) (by decide) rfl g rfl ?_
      refine r_iload (kd213 rfl) rfl rfl ?_
      obtain ⟨g, h⟩ := h
      have h := h _ rfl
      refine r_iastore (kd213 rfl) g rfl ?_
      exact (b_Mod_act_654 hd h).less (e_sc (List.mem_of_getElem? (i := 1) rfl) e_sn)
  have h := h.2 c
  refine ⟨fun c => ?_, fun c => ?_⟩
  · have h := h.1 c
    refine r_aload_n (kd213 rfl) rfl rfl ?_
    refine r_aload_n (kd213 rfl) rfl rfl ?_
    obtain ⟨g, h⟩ := h
    refine r_callVI (d' := d - 1) (by omega) (kd213 rfl) (by decide) rfl rfl rfl rfl (Nat.le_of_ble_eq_true rfl) rfl L214 (Nat.le_of_ble_eq_true rfl) (Nat.le_of_ble_eq_true rfl) g (Nat.zero_le _) (Nat.zero_le _) rfl rfl rfl (b_Mod_nextInput (by omega) h) (fun x1 M1 h => ?_)
    obtain ⟨g, h⟩ := h
    refine r_callVV (d' := d - 1) (by omega) (kd213 rfl) (by decide) rfl rfl rfl rfl (Nat.le_of_ble_eq_true rfl) rfl L203 (Nat.le_of_ble_eq_true rfl) (Nat.le_of_ble_eq_true rfl) g (Nat.zero_le _) (Nat.zero_le _) rfl rfl rfl (b_Mod_push (by omega) h) (fun M1 h => ?_)
    refine r_goto (kd213 rfl) ?_
    exact (b_Mod_act_703 hd h).less e_sn
  have h := h.2 c
  show e_E 213 _ _ _ 678 _ _ _ _
  exact (b_Mod_act_678 hd h).less (e_sc (List.mem_of_getElem? (i := 0) rfl) (e_sc (List.mem_of_getElem? (i := 4) rfl) e_sn))
/-- TierMillModel.step()Z -/
theorem kd211 {pc : Nat} {q : eI} (h : e_d211.lookup pc = some q) : e_dec 211 pc = some q := h
theorem L211 : (e_m 211).2.2.1 = 9 := rfl
theorem R211 : (e_m 211).2.2.2.1 = (some .boolean) := rfl
set_option maxRecDepth 100000 in
def w_Mod_step_197 (M : eM) (Q : Int32 → eM → Prop) : Prop := ((1 : Int32) = 0 ∨ (1 : Int32) = 1) ∧ Q (1 : Int32) M
set_option maxRecDepth 100000 in
theorem b_Mod_step_197 {d : Nat} {M : eM} {Q : Int32 → eM → Prop} (hd : 5 ≤ d) (h : w_Mod_step_197 M Q ) : e_E 211 d 0 0 197 [] [] M (e_QI Q) := by
  unfold w_Mod_step_197 at h
  refine r_iconst (kd211 rfl) (y := 1) (by decide) rfl ?_
  exact r_zreturn (kd211 rfl) R211 h.1 h.2
set_option maxRecDepth 100000 in
def w_Mod_step_237 (s0 : Int32) (s1 : Int32) (s2 : Int32) (s3 : Nat) (s4 : Nat) (M : eM) (Q : Int32 → eM → Prop) : Prop := e_ob M s3 12 ∧ w_Mod_byteAt s3 s2 (s1 + s0) M (fun (v31 : Int32) (M30 : eM) => e_ob M30 s4 12 ∧ w_Mod_jump s4 v31 M30 (fun (M32 : eM) => ((1 : Int32) = 0 ∨ (1 : Int32) = 1) ∧ Q (1 : Int32) M32))
set_option maxRecDepth 100000 in
theorem b_Mod_step_237 {d : Nat} {s0 : Int32} {s1 : Int32} {s2 : Int32} {s3 : Nat} {s4 : Nat} {M : eM} {Q : Int32 → eM → Prop} (hd : 5 ≤ d) (h : w_Mod_step_237 s0 s1 s2 s3 s4 M Q ) : e_E 211 d 0 0 237 [] [.int s0, .int s1, .int s2, .ref s3, .ref s4] M (e_QI Q) := by
  unfold w_Mod_step_237 at h
  refine r_iadd (kd211 rfl) rfl ?_
  obtain ⟨g, h⟩ := h
  refine r_callVI (d' := d - 1) (by omega) (kd211 rfl) (by decide) rfl rfl rfl rfl (Nat.le_of_ble_eq_true rfl) rfl L158 (Nat.le_of_ble_eq_true rfl) (Nat.le_of_ble_eq_true rfl) g (Nat.zero_le _) (Nat.zero_le _) rfl rfl rfl (b_Mod_byteAt (by omega) h) (fun x1 M1 h => ?_)
  obtain ⟨g, h⟩ := h
  refine r_callVV (d' := d - 1) (by omega) (kd211 rfl) (by decide) rfl rfl rfl rfl (Nat.le_of_ble_eq_true rfl) rfl L205 (Nat.le_of_ble_eq_true rfl) (Nat.le_of_ble_eq_true rfl) g (Nat.zero_le _) (Nat.zero_le _) rfl rfl rfl (b_Mod_jump (by omega) h) (fun M1 h => ?_)
  refine r_iconst (kd211 rfl) (y := 1) (by decide) rfl ?_
  exact r_zreturn (kd211 rfl) R211 h.1 h.2
set_option maxRecDepth 100000 in
def w_Mod_step_235 (l5 : Int32) (s0 : Int32) (s1 : Int32) (s2 : Nat) (s3 : Nat) (M : eM) (Q : Int32 → eM → Prop) : Prop := w_Mod_step_237 l5 s0 s1 s2 s3 M Q
set_option maxRecDepth 100000 in
theorem b_Mod_step_235 {d : Nat} {l5 : Int32} {s0 : Int32} {s1 : Int32} {s2 : Nat} {s3 : Nat} {M : eM} {Q : Int32 → eM → Prop} (hd : 5 ≤ d) (h : w_Mod_step_235 l5 s0 s1 s2 s3 M Q ) : e_E 211 d 0 0 235 [(5, .int l5)] [.int s0, .int s1, .ref s2, .ref s3] M (e_QI Q) := by
  unfold w_Mod_step_235 at h
  refine r_iload (kd211 rfl) rfl rfl ?_
  exact (b_Mod_step_237 hd h).less e_sn
set_option maxRecDepth 100000 in
def w_Mod_step_336 (s0 : Int32) (s1 : Nat) (M : eM) (Q : Int32 → eM → Prop) : Prop := e_ob M s1 12 ∧ w_Mod_leave s1 s0 M (fun (M33 : eM) => ((1 : Int32) = 0 ∨ (1 : Int32) = 1) ∧ Q (1 : Int32) M33)
set_option maxRecDepth 100000 in
theorem b_Mod_step_336 {d : Nat} {s0 : Int32} {s1 : Nat} {M : eM} {Q : Int32 → eM → Prop} (hd : 5 ≤ d) (h : w_Mod_step_336 s0 s1 M Q ) : e_E 211 d 0 0 336 [] [.int s0, .ref s1] M (e_QI Q) := by
  unfold w_Mod_step_336 at h
  obtain ⟨g, h⟩ := h
  refine r_callVV (d' := d - 1) (by omega) (kd211 rfl) (by decide) rfl rfl rfl rfl (Nat.le_of_ble_eq_true rfl) rfl L212 (Nat.le_of_ble_eq_true rfl) (Nat.le_of_ble_eq_true rfl) g (Nat.zero_le _) (Nat.zero_le _) rfl rfl rfl (b_Mod_leave (by omega) h) (fun M1 h => ?_)
  refine r_iconst (kd211 rfl) (y := 1) (by decide) rfl ?_
  exact r_zreturn (kd211 rfl) R211 h.1 h.2
set_option maxRecDepth 100000 in
def w_Mod_step_323 (l0 : Nat) (l4 : Int32) (M : eM) (Q : Int32 → eM → Prop) : Prop := (¬ l4 = 50 → w_Mod_step_336 0 l0 M Q) ∧ (l4 = 50 → w_Mod_step_336 1 l0 M Q)
set_option maxRecDepth 100000 in
theorem b_Mod_step_323 {d : Nat} {l0 : Nat} {l4 : Int32} {M : eM} {Q : Int32 → eM → Prop} (hd : 5 ≤ d) (h : w_Mod_step_323 l0 l4 M Q ) : e_E 211 d 0 0 323 [(0, .ref l0), (4, .int l4)] [] M (e_QI Q) := by
  unfold w_Mod_step_323 at h
  refine r_aload_n (kd211 rfl) rfl rfl ?_
  refine r_iload (kd211 rfl) rfl rfl ?_
  refine r_bipush (kd211 rfl) (y := 50) (by decide) rfl ?_
  refine r_icmp_ne (kd211 rfl) rfl (fun c => ?_) (fun c => ?_)
  · have h := h.1 c
    refine r_iconst (kd211 rfl) (y := 0) (by decide) rfl ?_
    exact (b_Mod_step_336 hd h).less e_sn
  · have h := h.2 c
    refine r_iconst (kd211 rfl) (y := 1) (by decide) rfl ?_
    refine r_goto (kd211 rfl) ?_
    exact (b_Mod_step_336 hd h).less e_sn
set_option maxRecDepth 100000 in
def w_Mod_step_199 (l0 : Nat) (l1 : Int32) (l2 : Int32) (l3 : Int32) (l4 : Int32) (l5 : Int32) (l7 : Int32) (M : eM) (Q : Int32 → eM → Prop) : Prop := (¬ l4 = 53 → (¬ l4 = 47 → (¬ l4 = 48 → (l4 = 49 → w_Mod_step_323 l0 l4 M Q) ∧ (¬ l4 = 49 → (¬ l4 = 50 → e_ob M l0 12 ∧ w_Mod_act l0 l1 l2 l3 l4 l5 l7 M (fun (M16 : eM) => e_ob M16 l0 12 ∧ e_ob M16 l0 12 ∧ w_Mod_longOf l0 l2 l3 M16 (fun (v18 : Int32) (M17 : eM) => e_ar M17 (gr M16 l0 62) 20 l1 ∧ ∀ M19 : eM, M19 = e_si M17 (gr M16 l0 62) l1.toNatClampNeg (l3 + v18) → ((1 : Int32) = 0 ∨ (1 : Int32) = 1) ∧ Q (1 : Int32) M19))) ∧ (l4 = 50 → w_Mod_step_323 l0 l4 M Q))) ∧ (l4 = 48 → e_ob M l0 12 ∧ e_ob M l0 12 ∧ e_ai M (gr M l0 16) l5 ∧ e_ob M l0 12 ∧ w_Mod_peek l0 (1 + (gi M (gr M l0 16) l5.toNatClampNeg)) M (fun (v21 : Int32) (M20 : eM) => e_ob M20 l0 12 ∧ w_Mod_objectOf l0 v21 M20 (fun (v23 : Int32) (M22 : eM) => e_ai M22 (gr M l0 75) v23 ∧ e_ob M22 l0 12 ∧ w_Mod_resolve l0 (gi M22 (gr M l0 75) v23.toNatClampNeg) l5 M22 (fun (v25 : Int32) (M24 : eM) => e_ob M24 l0 12 ∧ w_Mod_call l0 v25 (gi M22 (gr M l0 75) v23.toNatClampNeg) M24 (fun (M26 : eM) => ((1 : Int32) = 0 ∨ (1 : Int32) = 1) ∧ Q (1 : Int32) M26)))))) ∧ (l4 = 47 → e_ob M l0 12 ∧ w_Mod_call l0 l5 0 M (fun (M27 : eM) => ((1 : Int32) = 0 ∨ (1 : Int32) = 1) ∧ Q (1 : Int32) M27))) ∧ (l4 = 53 → e_ob M l0 12 ∧ w_Mod_pop l0 M (fun (v29 : Int32) (M28 : eM) => (v29 < 0 → w_Mod_step_235 l5 (l3 + 2) l2 l0 l0 M28 Q) ∧ (¬ v29 < 0 → (l5 ≤ v29 → w_Mod_step_235 l5 (l3 + 2) l2 l0 l0 M28 Q) ∧ (¬ l5 ≤ v29 → w_Mod_step_237 v29 (l3 + 2) l2 l0 l0 M28 Q))))
set_option maxRecDepth 100000 in
theorem b_Mod_step_199 {d : Nat} {l0 : Nat} {l1 : Int32} {l2 : Int32} {l3 : Int32} {l4 : Int32} {l5 : Int32} {l7 : Int32} {M : eM} {Q : Int32 → eM → Prop} (hd : 5 ≤ d) (h : w_Mod_step_199 l0 l1 l2 l3 l4 l5 l7 M Q ) : e_E 211 d 0 0 199 [(0, .ref l0), (1, .int l1), (2, .int l2), (3, .int l3), (4, .int l4), (5, .int l5), (7, .int l7)] [] M (e_QI Q) := by
  unfold w_Mod_step_199 at h
  refine r_iload (kd211 rfl) rfl rfl ?_
  refine r_bipush (kd211 rfl) (y := 53) (by decide) rfl ?_
  refine r_icmp_ne (kd211 rfl) rfl (fun c => ?_) (fun c => ?_)
  · have h := h.1 c
    refine r_iload (kd211 rfl) rfl rfl ?_
    refine r_bipush (kd211 rfl) (y := 47) (by decide) rfl ?_
    refine r_icmp_ne (kd211 rfl) rfl (fun c => ?_) (fun c => ?_)
    · have h := h.1 c
      refine r_iload (kd211 rfl) rfl rfl ?_
      refine r_bipush (kd211 rfl) (y := 48) (by decide) rfl ?_
      refine r_icmp_ne (kd211 rfl) rfl (fun c => ?_) (fun c => ?_)
      · have h := h.1 c
        refine r_iload (kd211 rfl) rfl rfl ?_
        refine r_bipush (kd211 rfl) (y := 49) (by decide) rfl ?_
        refine r_icmp_eq (kd211 rfl) rfl (fun c => ?_) (fun c => ?_)
        · have h := h.1 c
          exact (b_Mod_step_323 hd h).less (e_sc (List.mem_of_getElem? (i := 0) rfl) (e_sc (List.mem_of_getElem? (i := 4) rfl) e_sn))
        · have h := h.2 c
          refine r_iload (kd211 rfl) rfl rfl ?_
          refine r_bipush (kd211 rfl) (y := 50) (by decide) rfl ?_
          refine r_icmp_ne (kd211 rfl) rfl (fun c => ?_) (fun c => ?_)
          · have h := h.1 c
            refine r_aload_n (kd211 rfl) rfl rfl ?_
            refine r_iload_n (kd211 rfl) rfl rfl ?_
            refine r_iload_n (kd211 rfl) rfl rfl ?_
            refine r_iload_n (kd211 rfl) rfl rfl ?_
            refine r_iload (kd211 rfl) rfl rfl ?_
            refine r_iload (kd211 rfl) rfl rfl ?_
            refine r_iload (kd211 rfl) rfl rfl ?_
            obtain ⟨g, h⟩ := h
            refine r_callVV (d' := d - 1) (by omega) (kd211 rfl) (by decide) rfl rfl rfl rfl (Nat.le_of_ble_eq_true rfl) rfl L213 (Nat.le_of_ble_eq_true rfl) (Nat.le_of_ble_eq_true rfl) g (Nat.zero_le _) (Nat.zero_le _) rfl rfl rfl (b_Mod_act (by omega) h) (fun M1 h => ?_)
            refine r_aload_n (kd211 rfl) rfl rfl ?_
            obtain ⟨g, h⟩ := h
            refine r_get2 (kd211 rfl) (by decide) rfl g rfl ?_
            refine r_iload_n (kd211 rfl) rfl rfl ?_
            refine r_iload_n (kd211 rfl) rfl rfl ?_
            refine r_aload_n (kd211 rfl) rfl rfl ?_
            refine r_iload_n (kd211 rfl) rfl rfl ?_
            refine r_iload_n (kd211 rfl) rfl rfl ?_
            obtain ⟨g, h⟩ := h
            refine r_callVI (d' := d - 1) (by omega) (kd211 rfl) (by decide) rfl rfl rfl rfl (Nat.le_of_ble_eq_true rfl) rfl L159 (Nat.le_of_ble_eq_true rfl) (Nat.le_of_ble_eq_true rfl) g (Nat.zero_le _) (Nat.zero_le _) rfl rfl rfl (b_Mod_longOf (by omega) h) (fun x1 M1 h => ?_)
            refine r_iadd (kd211 rfl) rfl ?_
            obtain ⟨g, h⟩ := h
            have h := h _ rfl
            refine r_iastore (kd211 rfl) g rfl ?_
            refine r_iconst (kd211 rfl) (y := 1) (by decide) rfl ?_
            exact r_zreturn (kd211 rfl) R211 h.1 h.2
          · have h := h.2 c
            exact (b_Mod_step_323 hd h).less (e_sc (List.mem_of_getElem? (i := 0) rfl) (e_sc (List.mem_of_getElem? (i := 4) rfl) e_sn))
      · have h := h.2 c
        refine r_aload_n (kd211 rfl) rfl rfl ?_
        obtain ⟨g, h⟩ := h
        refine r_get2 (kd211 rfl) (by decide) rfl g rfl ?_
        refine r_aload_n (kd211 rfl) rfl rfl ?_
        refine r_aload_n (kd211 rfl) rfl rfl ?_
        refine r_iconst (kd211 rfl) (y := 1) (by decide) rfl ?_
        refine r_aload_n (kd211 rfl) rfl rfl ?_
        obtain ⟨g, h⟩ := h
        refine r_get2 (kd211 rfl) (by decide) rfl g rfl ?_
        refine r_iload (kd211 rfl) rfl rfl ?_
        obtain ⟨g, h⟩ := h
        refine r_iaload (kd211 rfl) g rfl ?_
        refine r_iadd (kd211 rfl) rfl ?_
        obtain ⟨g, h⟩ := h
        refine r_callVI (d' := d - 1) (by omega) (kd211 rfl) (by decide) rfl rfl rfl rfl (Nat.le_of_ble_eq_true rfl) rfl L204 (Nat.le_of_ble_eq_true rfl) (Nat.le_of_ble_eq_true rfl) g (Nat.zero_le _) (Nat.zero_le _) rfl rfl rfl (b_Mod_peek (by omega) h) (fun x1 M1 h => ?_)
        obtain ⟨g, h⟩ := h
        refine r_callVI (d' := d - 1) (by omega) (kd211 rfl) (by decide) rfl rfl rfl rfl (Nat.le_of_ble_eq_true rfl) rfl L195 (Nat.le_of_ble_eq_true rfl) (Nat.le_of_ble_eq_true rfl) g (Nat.zero_le _) (Nat.zero_le _) rfl rfl rfl (b_Mod_objectOf (by omega) h) (fun x1 M1 h => ?_)
        obtain ⟨g, h⟩ := h
        refine r_iaload (kd211 rfl) g rfl ?_
        refine r_istore (kd211 rfl) L211 (by decide) rfl rfl ?_
        refine r_aload_n (kd211 rfl) rfl rfl ?_
        refine r_aload_n (kd211 rfl) rfl rfl ?_
        refine r_iload (kd211 rfl) rfl rfl ?_
        refine r_iload (kd211 rfl) rfl rfl ?_
        obtain ⟨g, h⟩ := h
        refine r_callVI (d' := d - 1) (by omega) (kd211 rfl) (by decide) rfl rfl rfl rfl (Nat.le_of_ble_eq_true rfl) rfl L168 (Nat.le_of_ble_eq_true rfl) (Nat.le_of_ble_eq_true rfl) g (Nat.zero_le _) (Nat.zero_le _) rfl rfl rfl (b_Mod_resolve (by omega) h) (fun x1 M1 h => ?_)
        refine r_iload (kd211 rfl) rfl rfl ?_
        obtain ⟨g, h⟩ := h
        refine r_callVV (d' := d - 1) (by omega) (kd211 rfl) (by decide) rfl rfl rfl rfl (Nat.le_of_ble_eq_true rfl) rfl L194 (Nat.le_of_ble_eq_true rfl) (Nat.le_of_ble_eq_true rfl) g (Nat.zero_le _) (Nat.zero_le _) rfl rfl rfl (b_Mod_call (by omega) h) (fun M1 h => ?_)
        refine r_iconst (kd211 rfl) (y := 1) (by decide) rfl ?_
        exact r_zreturn (kd211 rfl) R211 h.1 h.2
    · have h := h.2 c
      refine r_aload_n (kd211 rfl) rfl rfl ?_
      refine r_iload (kd211 rfl) rfl rfl ?_
      refine r_iconst (kd211 rfl) (y := 0) (by decide) rfl ?_
      obtain ⟨g, h⟩ := h
      refine r_callVV (d' := d - 1) (by omega) (kd211 rfl) (by decide) rfl rfl rfl rfl (Nat.le_of_ble_eq_true rfl) rfl L194 (Nat.le_of_ble_eq_true rfl) (Nat.le_of_ble_eq_true rfl) g (Nat.zero_le _) (Nat.zero_le _) rfl rfl rfl (b_Mod_call (by omega) h) (fun M1 h => ?_)
      refine r_iconst (kd211 rfl) (y := 1) (by decide) rfl ?_
      exact r_zreturn (kd211 rfl) R211 h.1 h.2
  · have h := h.2 c
    refine r_aload_n (kd211 rfl) rfl rfl ?_
    obtain ⟨g, h⟩ := h
    refine r_callVI (d' := d - 1) (by omega) (kd211 rfl) (by decide) rfl rfl rfl rfl (Nat.le_of_ble_eq_true rfl) rfl L202 (Nat.le_of_ble_eq_true rfl) (Nat.le_of_ble_eq_true rfl) g (Nat.zero_le _) (Nat.zero_le _) rfl rfl rfl (b_Mod_pop (by omega) h) (fun x1 M1 h => ?_)
    refine r_istore (kd211 rfl) L211 (by decide) rfl rfl ?_
    refine r_aload_n (kd211 rfl) rfl rfl ?_
    refine r_aload_n (kd211 rfl) rfl rfl ?_
    refine r_iload_n (kd211 rfl) rfl rfl ?_
    refine r_iload_n (kd211 rfl) rfl rfl ?_
    refine r_iconst (kd211 rfl) (y := 2) (by decide) rfl ?_
    refine r_iadd (kd211 rfl) rfl ?_
    refine r_iload (kd211 rfl) rfl rfl ?_
    refine r_if_lt (kd211 rfl) rfl (fun c => ?_) (fun c => ?_)
    · have h := h.1 c
      exact (b_Mod_step_235 hd h).less (e_sc (List.mem_of_getElem? (i := 6) rfl) e_sn)
    · have h := h.2 c
      refine r_iload (kd211 rfl) rfl rfl ?_
      refine r_iload (kd211 rfl) rfl rfl ?_
      refine r_icmp_ge (kd211 rfl) rfl (fun c => ?_) (fun c => ?_)
      · have h := h.1 c
        exact (b_Mod_step_235 hd h).less (e_sc (List.mem_of_getElem? (i := 6) rfl) e_sn)
      · have h := h.2 c
        refine r_iload (kd211 rfl) rfl rfl ?_
        refine r_goto (kd211 rfl) ?_
        exact (b_Mod_step_237 hd h).less e_sn
set_option maxRecDepth 100000 in
def w_Mod_step_143 (l0 : Nat) (l1 : Int32) (l2 : Int32) (l3 : Int32) (l4 : Int32) (l5 : Int32) (l6 : Int32) (l7 : Int32) (M : eM) (Q : Int32 → eM → Prop) : Prop := (l6 ≤ 0 → (l4 < 21 → w_Mod_step_199 l0 l1 l2 l3 l4 l5 l7 M Q) ∧ (¬ l4 < 21 → (37 < l4 → w_Mod_step_199 l0 l1 l2 l3 l4 l5 l7 M Q) ∧ (¬ 37 < l4 → e_ob M l0 12 ∧ w_Mod_holds l0 l4 M (fun (v12 : Int32) (M11 : eM) => (v12 = 0 → e_ob M11 l0 12 ∧ e_ar M11 (gr M11 l0 62) 20 l1 ∧ ∀ M13 : eM, M13 = e_si M11 (gr M11 l0 62) l1.toNatClampNeg (l3 + 2) → w_Mod_step_197 M13 Q) ∧ (¬ v12 = 0 → e_ob M11 l0 12 ∧ w_Mod_jump l0 l5 M11 (fun (M14 : eM) => w_Mod_step_197 M14 Q)))))) ∧ (¬ l6 ≤ 0 → e_ob M l0 12 ∧ w_Mod_stop l0 l6 M (fun (M15 : eM) => ((0 : Int32) = 0 ∨ (0 : Int32) = 1) ∧ Q (0 : Int32) M15))
set_option maxRecDepth 100000 in
theorem b_Mod_step_143 {d : Nat} {l0 : Nat} {l1 : Int32} {l2 : Int32} {l3 : Int32} {l4 : Int32} {l5 : Int32} {l6 : Int32} {l7 : Int32} {M : eM} {Q : Int32 → eM → Prop} (hd : 5 ≤ d) (h : w_Mod_step_143 l0 l1 l2 l3 l4 l5 l6 l7 M Q ) : e_E 211 d 0 0 143 [(0, .ref l0), (1, .int l1), (2, .int l2), (3, .int l3), (4, .int l4), (5, .int l5), (6, .int l6), (7, .int l7)] [] M (e_QI Q) := by
  unfold w_Mod_step_143 at h
  refine r_iload (kd211 rfl) rfl rfl ?_
  refine r_if_le (kd211 rfl) rfl (fun c => ?_) (fun c => ?_)
  · have h := h.1 c
    refine r_iload (kd211 rfl) rfl rfl ?_
    refine r_bipush (kd211 rfl) (y := 21) (by decide) rfl ?_
    refine r_icmp_lt (kd211 rfl) rfl (fun c => ?_) (fun c => ?_)
    · have h := h.1 c
      exact (b_Mod_step_199 hd h).less (e_sc (List.mem_of_getElem? (i := 0) rfl) (e_sc (List.mem_of_getElem? (i := 1) rfl) (e_sc (List.mem_of_getElem? (i := 2) rfl) (e_sc (List.mem_of_getElem? (i := 3) rfl) (e_sc (List.mem_of_getElem? (i := 4) rfl) (e_sc (List.mem_of_getElem? (i := 5) rfl) (e_sc (List.mem_of_getElem? (i := 7) rfl) e_sn)))))))
    · have h := h.2 c
      refine r_iload (kd211 rfl) rfl rfl ?_
      refine r_bipush (kd211 rfl) (y := 37) (by decide) rfl ?_
      refine r_icmp_gt (kd211 rfl) rfl (fun c => ?_) (fun c => ?_)
      · have h := h.1 c
        exact (b_Mod_step_199 hd h).less (e_sc (List.mem_of_getElem? (i := 0) rfl) (e_sc (List.mem_of_getElem? (i := 1) rfl) (e_sc (List.mem_of_getElem? (i := 2) rfl) (e_sc (List.mem_of_getElem? (i := 3) rfl) (e_sc (List.mem_of_getElem? (i := 4) rfl) (e_sc (List.mem_of_getElem? (i := 5) rfl) (e_sc (List.mem_of_getElem? (i := 7) rfl) e_sn)))))))
      · have h := h.2 c
        refine r_aload_n (kd211 rfl) rfl rfl ?_
        refine r_iload (kd211 rfl) rfl rfl ?_
        obtain ⟨g, h⟩ := h
        refine r_callVI (d' := d - 1) (by omega) (kd211 rfl) (by decide) rfl rfl rfl rfl (Nat.le_of_ble_eq_true rfl) rfl L208 (Nat.le_of_ble_eq_true rfl) (Nat.le_of_ble_eq_true rfl) g (Nat.zero_le _) (Nat.zero_le _) rfl rfl rfl (b_Mod_holds (by omega) h) (fun x1 M1 h => ?_)
        refine r_if_eq (kd211 rfl) rfl (fun c => ?_) (fun c => ?_)
        · have h := h.1 c
          refine r_aload_n (kd211 rfl) rfl rfl ?_
          obtain ⟨g, h⟩ := h
          refine r_get2 (kd211 rfl) (by decide) rfl g rfl ?_
          refine r_iload_n (kd211 rfl) rfl rfl ?_
          refine r_iload_n (kd211 rfl) rfl rfl ?_
          refine r_iconst (kd211 rfl) (y := 2) (by decide) rfl ?_
          refine r_iadd (kd211 rfl) rfl ?_
          obtain ⟨g, h⟩ := h
          have h := h _ rfl
          refine r_iastore (kd211 rfl) g rfl ?_
          exact (b_Mod_step_197 hd h).less e_sn
        · have h := h.2 c
          refine r_aload_n (kd211 rfl) rfl rfl ?_
          refine r_iload (kd211 rfl) rfl rfl ?_
          obtain ⟨g, h⟩ := h
          refine r_callVV (d' := d - 1) (by omega) (kd211 rfl) (by decide) rfl rfl rfl rfl (Nat.le_of_ble_eq_true rfl) rfl L205 (Nat.le_of_ble_eq_true rfl) (Nat.le_of_ble_eq_true rfl) g (Nat.zero_le _) (Nat.zero_le _) rfl rfl rfl (b_Mod_jump (by omega) h) (fun M1 h => ?_)
          refine r_goto (kd211 rfl) ?_
          exact (b_Mod_step_197 hd h).less e_sn
  · have h := h.2 c
    refine r_aload_n (kd211 rfl) rfl rfl ?_
    refine r_iload (kd211 rfl) rfl rfl ?_
    obtain ⟨g, h⟩ := h
    refine r_callVV (d' := d - 1) (by omega) (kd211 rfl) (by decide) rfl rfl rfl rfl (Nat.le_of_ble_eq_true rfl) rfl L210 (Nat.le_of_ble_eq_true rfl) (Nat.le_of_ble_eq_true rfl) g (Nat.zero_le _) (Nat.zero_le _) rfl rfl rfl (b_Mod_stop (by omega) h) (fun M1 h => ?_)
    refine r_iconst (kd211 rfl) (y := 0) (by decide) rfl ?_
    exact r_zreturn (kd211 rfl) R211 h.1 h.2
set_option maxRecDepth 100000 in
def w_Mod_step_141 (l0 : Nat) (l1 : Int32) (l2 : Int32) (l3 : Int32) (l4 : Int32) (l5 : Int32) (l7 : Int32) (s0 : Int32) (M : eM) (Q : Int32 → eM → Prop) : Prop := w_Mod_step_143 l0 l1 l2 l3 l4 l5 s0 l7 M Q
set_option maxRecDepth 100000 in
theorem b_Mod_step_141 {d : Nat} {l0 : Nat} {l1 : Int32} {l2 : Int32} {l3 : Int32} {l4 : Int32} {l5 : Int32} {l7 : Int32} {s0 : Int32} {M : eM} {Q : Int32 → eM → Prop} (hd : 5 ≤ d) (h : w_Mod_step_141 l0 l1 l2 l3 l4 l5 l7 s0 M Q ) : e_E 211 d 0 0 141 [(0, .ref l0), (1, .int l1), (2, .int l2), (3, .int l3), (4, .int l4), (5, .int l5), (7, .int l7)] [.int s0] M (e_QI Q) := by
  unfold w_Mod_step_141 at h
  refine r_istore (kd211 rfl) L211 (by decide) rfl rfl ?_
  exact (b_Mod_step_143 hd h).less (e_sc (List.mem_of_getElem? (i := 1) rfl) (e_sc (List.mem_of_getElem? (i := 2) rfl) (e_sc (List.mem_of_getElem? (i := 3) rfl) (e_sc (List.mem_of_getElem? (i := 4) rfl) (e_sc (List.mem_of_getElem? (i := 5) rfl) (e_sc (List.mem_of_getElem? (i := 6) rfl) (e_sc (List.mem_of_getElem? (i := 0) rfl) (e_sc (List.mem_of_getElem? (i := 7) rfl) e_sn))))))))
set_option maxRecDepth 100000 in
def w_Mod_step_124 (l0 : Nat) (l1 : Int32) (l2 : Int32) (l3 : Int32) (l4 : Int32) (l5 : Int32) (s0 : Int32) (s1 : Int32) (s2 : Nat) (M : eM) (Q : Int32 → eM → Prop) : Prop := e_ob M s2 12 ∧ w_Mod_make s2 s1 s0 M (fun (v10 : Int32) (M9 : eM) => (¬ v10 = (-1) → w_Mod_step_141 l0 l1 l2 l3 l4 l5 v10 0 M9 Q) ∧ (v10 = (-1) → w_Mod_step_141 l0 l1 l2 l3 l4 l5 v10 6 M9 Q))
set_option maxRecDepth 100000 in
theorem b_Mod_step_124 {d : Nat} {l0 : Nat} {l1 : Int32} {l2 : Int32} {l3 : Int32} {l4 : Int32} {l5 : Int32} {s0 : Int32} {s1 : Int32} {s2 : Nat} {M : eM} {Q : Int32 → eM → Prop} (hd : 5 ≤ d) (h : w_Mod_step_124 l0 l1 l2 l3 l4 l5 s0 s1 s2 M Q ) : e_E 211 d 0 0 124 [(0, .ref l0), (1, .int l1), (2, .int l2), (3, .int l3), (4, .int l4), (5, .int l5)] [.int s0, .int s1, .ref s2] M (e_QI Q) := by
  unfold w_Mod_step_124 at h
  obtain ⟨g, h⟩ := h
  refine r_callVI (d' := d - 1) (by omega) (kd211 rfl) (by decide) rfl rfl rfl rfl (Nat.le_of_ble_eq_true rfl) rfl L201 (Nat.le_of_ble_eq_true rfl) (Nat.le_of_ble_eq_true rfl) g (Nat.zero_le _) (Nat.zero_le _) rfl rfl rfl (b_Mod_make (by omega) h) (fun x1 M1 h => ?_)
  refine r_istore (kd211 rfl) L211 (by decide) rfl rfl ?_
  refine r_iload (kd211 rfl) rfl rfl ?_
  refine r_iconst (kd211 rfl) (y := (-1)) (by decide) rfl ?_
  refine r_icmp_ne (kd211 rfl) rfl (fun c => ?_) (fun c => ?_)
  · have h := h.1 c
    refine r_iconst (kd211 rfl) (y := 0) (by decide) rfl ?_
    exact (b_Mod_step_141 hd h).less (e_sc (List.mem_of_getElem? (i := 1) rfl) (e_sc (List.mem_of_getElem? (i := 2) rfl) (e_sc (List.mem_of_getElem? (i := 3) rfl) (e_sc (List.mem_of_getElem? (i := 4) rfl) (e_sc (List.mem_of_getElem? (i := 5) rfl) (e_sc (List.mem_of_getElem? (i := 6) rfl) (e_sc (List.mem_of_getElem? (i := 0) rfl) e_sn)))))))
  · have h := h.2 c
    refine r_bipush (kd211 rfl) (y := 6) (by decide) rfl ?_
    refine r_goto (kd211 rfl) ?_
    exact (b_Mod_step_141 hd h).less (e_sc (List.mem_of_getElem? (i := 1) rfl) (e_sc (List.mem_of_getElem? (i := 2) rfl) (e_sc (List.mem_of_getElem? (i := 3) rfl) (e_sc (List.mem_of_getElem? (i := 4) rfl) (e_sc (List.mem_of_getElem? (i := 5) rfl) (e_sc (List.mem_of_getElem? (i := 6) rfl) (e_sc (List.mem_of_getElem? (i := 0) rfl) e_sn)))))))
set_option maxRecDepth 100000 in
def w_Mod_step_102 (l0 : Nat) (l1 : Int32) (l2 : Int32) (l3 : Int32) (l4 : Int32) (l5 : Int32) (s0 : Int32) (s1 : Nat) (M : eM) (Q : Int32 → eM → Prop) : Prop := (¬ l4 = 38 → e_ob M l0 12 ∧ w_Mod_peek l0 1 M (fun (v8 : Int32) (M7 : eM) => w_Mod_step_124 l0 l1 l2 l3 l4 l5 v8 s0 s1 M7 Q)) ∧ (l4 = 38 → e_ob M l0 12 ∧ e_ai M (gr M l0 13) l5 ∧ w_Mod_step_124 l0 l1 l2 l3 l4 l5 (gi M (gr M l0 13) l5.toNatClampNeg) s0 s1 M Q)
set_option maxRecDepth 100000 in
theorem b_Mod_step_102 {d : Nat} {l0 : Nat} {l1 : Int32} {l2 : Int32} {l3 : Int32} {l4 : Int32} {l5 : Int32} {s0 : Int32} {s1 : Nat} {M : eM} {Q : Int32 → eM → Prop} (hd : 5 ≤ d) (h : w_Mod_step_102 l0 l1 l2 l3 l4 l5 s0 s1 M Q ) : e_E 211 d 0 0 102 [(0, .ref l0), (1, .int l1), (2, .int l2), (3, .int l3), (4, .int l4), (5, .int l5)] [.int s0, .ref s1] M (e_QI Q) := by
  unfold w_Mod_step_102 at h
  refine r_iload (kd211 rfl) rfl rfl ?_
  refine r_bipush (kd211 rfl) (y := 38) (by decide) rfl ?_
  refine r_icmp_ne (kd211 rfl) rfl (fun c => ?_) (fun c => ?_)
  · have h := h.1 c
    refine r_aload_n (kd211 rfl) rfl rfl ?_
    refine r_iconst (kd211 rfl) (y := 1) (by decide) rfl ?_
    obtain ⟨g, h⟩ := h
    refine r_callVI (d' := d - 1) (by omega) (kd211 rfl) (by decide) rfl rfl rfl rfl (Nat.le_of_ble_eq_true rfl) rfl L204 (Nat.le_of_ble_eq_true rfl) (Nat.le_of_ble_eq_true rfl) g (Nat.zero_le _) (Nat.zero_le _) rfl rfl rfl (b_Mod_peek (by omega) h) (fun x1 M1 h => ?_)
    exact (b_Mod_step_124 hd h).less (e_sc (List.mem_of_getElem? (i := 0) rfl) (e_sc (List.mem_of_getElem? (i := 1) rfl) (e_sc (List.mem_of_getElem? (i := 2) rfl) (e_sc (List.mem_of_getElem? (i := 3) rfl) (e_sc (List.mem_of_getElem? (i := 4) rfl) (e_sc (List.mem_of_getElem? (i := 5) rfl) e_sn))))))
  · have h := h.2 c
    refine r_aload_n (kd211 rfl) rfl rfl ?_
    obtain ⟨g, h⟩ := h
    refine r_get2 (kd211 rfl) (by decide) rfl g rfl ?_
    refine r_iload (kd211 rfl) rfl rfl ?_
    obtain ⟨g, h⟩ := h
    refine r_iaload (kd211 rfl) g rfl ?_
    refine r_goto (kd211 rfl) ?_
    exact (b_Mod_step_124 hd h).less (e_sc (List.mem_of_getElem? (i := 0) rfl) (e_sc (List.mem_of_getElem? (i := 1) rfl) (e_sc (List.mem_of_getElem? (i := 2) rfl) (e_sc (List.mem_of_getElem? (i := 3) rfl) (e_sc (List.mem_of_getElem? (i := 4) rfl) (e_sc (List.mem_of_getElem? (i := 5) rfl) e_sn))))))
set_option maxRecDepth 100000 in
def w_Mod_step_87 (l0 : Nat) (l1 : Int32) (l2 : Int32) (l3 : Int32) (l4 : Int32) (l5 : Int32) (M : eM) (Q : Int32 → eM → Prop) : Prop := (¬ l4 = 38 → w_Mod_step_102 l0 l1 l2 l3 l4 l5 16 l0 M Q) ∧ (l4 = 38 → w_Mod_step_102 l0 l1 l2 l3 l4 l5 l5 l0 M Q)
set_option maxRecDepth 100000 in
theorem b_Mod_step_87 {d : Nat} {l0 : Nat} {l1 : Int32} {l2 : Int32} {l3 : Int32} {l4 : Int32} {l5 : Int32} {M : eM} {Q : Int32 → eM → Prop} (hd : 5 ≤ d) (h : w_Mod_step_87 l0 l1 l2 l3 l4 l5 M Q ) : e_E 211 d 0 0 87 [(0, .ref l0), (1, .int l1), (2, .int l2), (3, .int l3), (4, .int l4), (5, .int l5)] [] M (e_QI Q) := by
  unfold w_Mod_step_87 at h
  refine r_aload_n (kd211 rfl) rfl rfl ?_
  refine r_iload (kd211 rfl) rfl rfl ?_
  refine r_bipush (kd211 rfl) (y := 38) (by decide) rfl ?_
  refine r_icmp_ne (kd211 rfl) rfl (fun c => ?_) (fun c => ?_)
  · have h := h.1 c
    refine r_bipush (kd211 rfl) (y := 16) (by decide) rfl ?_
    exact (b_Mod_step_102 hd h).less (e_sc (List.mem_of_getElem? (i := 0) rfl) (e_sc (List.mem_of_getElem? (i := 1) rfl) (e_sc (List.mem_of_getElem? (i := 2) rfl) (e_sc (List.mem_of_getElem? (i := 3) rfl) (e_sc (List.mem_of_getElem? (i := 4) rfl) (e_sc (List.mem_of_getElem? (i := 5) rfl) e_sn))))))
  · have h := h.2 c
    refine r_iload (kd211 rfl) rfl rfl ?_
    refine r_goto (kd211 rfl) ?_
    exact (b_Mod_step_102 hd h).less (e_sc (List.mem_of_getElem? (i := 0) rfl) (e_sc (List.mem_of_getElem? (i := 1) rfl) (e_sc (List.mem_of_getElem? (i := 2) rfl) (e_sc (List.mem_of_getElem? (i := 3) rfl) (e_sc (List.mem_of_getElem? (i := 4) rfl) (e_sc (List.mem_of_getElem? (i := 5) rfl) e_sn))))))
set_option maxRecDepth 100000 in
def w_Mod_step_53 (l0 : Nat) (l1 : Int32) (l2 : Int32) (l3 : Int32) (l4 : Int32) (s0 : Int32) (M : eM) (Q : Int32 → eM → Prop) : Prop := e_ob M l0 12 ∧ w_Mod_trapOf l0 l4 l2 l3 M (fun (v6 : Int32) (M5 : eM) => (¬ v6 = 0 → w_Mod_step_143 l0 l1 l2 l3 l4 s0 v6 0 M5 Q) ∧ (v6 = 0 → (l4 = 38 → w_Mod_step_87 l0 l1 l2 l3 l4 s0 M5 Q) ∧ (¬ l4 = 38 → (¬ l4 = 41 → w_Mod_step_143 l0 l1 l2 l3 l4 s0 v6 0 M5 Q) ∧ (l4 = 41 → w_Mod_step_87 l0 l1 l2 l3 l4 s0 M5 Q))))
set_option maxRecDepth 100000 in
theorem b_Mod_step_53 {d : Nat} {l0 : Nat} {l1 : Int32} {l2 : Int32} {l3 : Int32} {l4 : Int32} {s0 : Int32} {M : eM} {Q : Int32 → eM → Prop} (hd : 5 ≤ d) (h : w_Mod_step_53 l0 l1 l2 l3 l4 s0 M Q ) : e_E 211 d 0 0 53 [(0, .ref l0), (1, .int l1), (2, .int l2), (3, .int l3), (4, .int l4)] [.int s0] M (e_QI Q) := by
  unfold w_Mod_step_53 at h
  refine r_istore (kd211 rfl) L211 (by decide) rfl rfl ?_
  refine r_aload_n (kd211 rfl) rfl rfl ?_
  refine r_iload (kd211 rfl) rfl rfl ?_
  refine r_iload_n (kd211 rfl) rfl rfl ?_
  refine r_iload_n (kd211 rfl) rfl rfl ?_
  obtain ⟨g, h⟩ := h
  refine r_callVI (d' := d - 1) (by omega) (kd211 rfl) (by decide) rfl rfl rfl rfl (Nat.le_of_ble_eq_true rfl) rfl L209 (Nat.le_of_ble_eq_true rfl) (Nat.le_of_ble_eq_true rfl) g (Nat.zero_le _) (Nat.zero_le _) rfl rfl rfl (b_Mod_trapOf (by omega) h) (fun x1 M1 h => ?_)
  refine r_istore (kd211 rfl) L211 (by decide) rfl rfl ?_
  refine r_iconst (kd211 rfl) (y := 0) (by decide) rfl ?_
  refine r_istore (kd211 rfl) L211 (by decide) rfl rfl ?_
  refine r_iload (kd211 rfl) rfl rfl ?_
  refine r_if_ne (kd211 rfl) rfl (fun c => ?_) (fun c => ?_)
  · have h := h.1 c
    exact (b_Mod_step_143 hd h).less (e_sc (List.mem_of_getElem? (i := 3) rfl) (e_sc (List.mem_of_getElem? (i := 4) rfl) (e_sc (List.mem_of_getElem? (i := 5) rfl) (e_sc (List.mem_of_getElem? (i := 6) rfl) (e_sc (List.mem_of_getElem? (i := 7) rfl) (e_sc (List.mem_of_getElem? (i := 2) rfl) (e_sc (List.mem_of_getElem? (i := 1) rfl) (e_sc (List.mem_of_getElem? (i := 0) rfl) e_sn))))))))
  · have h := h.2 c
    refine r_iload (kd211 rfl) rfl rfl ?_
    refine r_bipush (kd211 rfl) (y := 38) (by decide) rfl ?_
    refine r_icmp_eq (kd211 rfl) rfl (fun c => ?_) (fun c => ?_)
    · have h := h.1 c
      exact (b_Mod_step_87 hd h).less (e_sc (List.mem_of_getElem? (i := 3) rfl) (e_sc (List.mem_of_getElem? (i := 4) rfl) (e_sc (List.mem_of_getElem? (i := 5) rfl) (e_sc (List.mem_of_getElem? (i := 6) rfl) (e_sc (List.mem_of_getElem? (i := 7) rfl) (e_sc (List.mem_of_getElem? (i := 2) rfl) e_sn))))))
    · have h := h.2 c
      refine r_iload (kd211 rfl) rfl rfl ?_
      refine r_bipush (kd211 rfl) (y := 41) (by decide) rfl ?_
      refine r_icmp_ne (kd211 rfl) rfl (fun c => ?_) (fun c => ?_)
      · have h := h.1 c
        exact (b_Mod_step_143 hd h).less (e_sc (List.mem_of_getElem? (i := 3) rfl) (e_sc (List.mem_of_getElem? (i := 4) rfl) (e_sc (List.mem_of_getElem? (i := 5) rfl) (e_sc (List.mem_of_getElem? (i := 6) rfl) (e_sc (List.mem_of_getElem? (i := 7) rfl) (e_sc (List.mem_of_getElem? (i := 2) rfl) (e_sc (List.mem_of_getElem? (i := 1) rfl) (e_sc (List.mem_of_getElem? (i := 0) rfl) e_sn))))))))
      · have h := h.2 c
        exact (b_Mod_step_87 hd h).less (e_sc (List.mem_of_getElem? (i := 3) rfl) (e_sc (List.mem_of_getElem? (i := 4) rfl) (e_sc (List.mem_of_getElem? (i := 5) rfl) (e_sc (List.mem_of_getElem? (i := 6) rfl) (e_sc (List.mem_of_getElem? (i := 7) rfl) (e_sc (List.mem_of_getElem? (i := 2) rfl) e_sn))))))
set_option maxRecDepth 100000 in
def w_Mod_step (l0 : Nat) (M : eM) (Q : Int32 → eM → Prop) : Prop := e_ob M l0 12 ∧ e_ob M l0 12 ∧ e_ai M (gr M l0 61) ((gi M l0 60) - 1) ∧ e_ob M l0 12 ∧ e_ai M (gr M l0 62) ((gi M l0 60) - 1) ∧ e_ob M l0 12 ∧ w_Mod_byteAt l0 (gi M (gr M l0 61) ((gi M l0 60) - 1).toNatClampNeg) (gi M (gr M l0 62) ((gi M l0 60) - 1).toNatClampNeg) M (fun (v2 : Int32) (M1 : eM) => e_ob M1 l0 12 ∧ e_ai M1 (gr M1 l0 25) (gi M (gr M l0 61) ((gi M l0 60) - 1).toNatClampNeg) ∧ ((gi M1 (gr M1 l0 25) (gi M (gr M l0 61) ((gi M l0 60) - 1).toNatClampNeg).toNatClampNeg) ≤ ((gi M (gr M l0 62) ((gi M l0 60) - 1).toNatClampNeg) + 1) → w_Mod_step_53 l0 ((gi M l0 60) - 1) (gi M (gr M l0 61) ((gi M l0 60) - 1).toNatClampNeg) (gi M (gr M l0 62) ((gi M l0 60) - 1).toNatClampNeg) v2 0 M1 Q) ∧ (¬ (gi M1 (gr M1 l0 25) (gi M (gr M l0 61) ((gi M l0 60) - 1).toNatClampNeg).toNatClampNeg) ≤ ((gi M (gr M l0 62) ((gi M l0 60) - 1).toNatClampNeg) + 1) → e_ob M1 l0 12 ∧ w_Mod_byteAt l0 (gi M (gr M l0 61) ((gi M l0 60) - 1).toNatClampNeg) ((gi M (gr M l0 62) ((gi M l0 60) - 1).toNatClampNeg) + 1) M1 (fun (v4 : Int32) (M3 : eM) => w_Mod_step_53 l0 ((gi M l0 60) - 1) (gi M (gr M l0 61) ((gi M l0 60) - 1).toNatClampNeg) (gi M (gr M l0 62) ((gi M l0 60) - 1).toNatClampNeg) v2 v4 M3 Q)))
set_option maxRecDepth 100000 in
theorem b_Mod_step {d : Nat} {l0 : Nat} {M : eM} {Q : Int32 → eM → Prop} (hd : 5 ≤ d) (h : w_Mod_step l0 M Q) : e_CI 211 d 0 0 [.ref l0] M Q := by
  unfold w_Mod_step at h
  show e_E 211 d 0 0 0 [(0, .ref l0)] [] M (e_QI Q)
  refine r_aload_n (kd211 rfl) rfl rfl ?_
  obtain ⟨g, h⟩ := h
  refine r_get0 (kd211 rfl) (by decide) rfl g rfl ?_
  refine r_iconst (kd211 rfl) (y := 1) (by decide) rfl ?_
  refine r_isub (kd211 rfl) rfl ?_
  refine r_istore_n (kd211 rfl) L211 (by decide) rfl rfl ?_
  refine r_aload_n (kd211 rfl) rfl rfl ?_
  obtain ⟨g, h⟩ := h
  refine r_get2 (kd211 rfl) (by decide) rfl g rfl ?_
  refine r_iload_n (kd211 rfl) rfl rfl ?_
  obtain ⟨g, h⟩ := h
  refine r_iaload (kd211 rfl) g rfl ?_
  refine r_istore_n (kd211 rfl) L211 (by decide) rfl rfl ?_
  refine r_aload_n (kd211 rfl) rfl rfl ?_
  obtain ⟨g, h⟩ := h
  refine r_get2 (kd211 rfl) (by decide) rfl g rfl ?_
  refine r_iload_n (kd211 rfl) rfl rfl ?_
  obtain ⟨g, h⟩ := h
  refine r_iaload (kd211 rfl) g rfl ?_
  refine r_istore_n (kd211 rfl) L211 (by decide) rfl rfl ?_
  refine r_aload_n (kd211 rfl) rfl rfl ?_
  refine r_iload_n (kd211 rfl) rfl rfl ?_
  refine r_iload_n (kd211 rfl) rfl rfl ?_
  obtain ⟨g, h⟩ := h
  refine r_callVI (d' := d - 1) (by omega) (kd211 rfl) (by decide) rfl rfl rfl rfl (Nat.le_of_ble_eq_true rfl) rfl L158 (Nat.le_of_ble_eq_true rfl) (Nat.le_of_ble_eq_true rfl) g (Nat.zero_le _) (Nat.zero_le _) rfl rfl rfl (b_Mod_byteAt (by omega) h) (fun x1 M1 h => ?_)
  refine r_istore (kd211 rfl) L211 (by decide) rfl rfl ?_
  refine r_aload_n (kd211 rfl) rfl rfl ?_
  obtain ⟨g, h⟩ := h
  refine r_get2 (kd211 rfl) (by decide) rfl g rfl ?_
  refine r_iload_n (kd211 rfl) rfl rfl ?_
  obtain ⟨g, h⟩ := h
  refine r_iaload (kd211 rfl) g rfl ?_
  refine r_iload_n (kd211 rfl) rfl rfl ?_
  refine r_iconst (kd211 rfl) (y := 1) (by decide) rfl ?_
  refine r_iadd (kd211 rfl) rfl ?_
  refine r_icmp_le (kd211 rfl) rfl (fun c => ?_) (fun c => ?_)
  · have h := h.1 c
    refine r_iconst (kd211 rfl) (y := 0) (by decide) rfl ?_
    exact (b_Mod_step_53 hd h).less (e_sc (List.mem_of_getElem? (i := 4) rfl) (e_sc (List.mem_of_getElem? (i := 3) rfl) (e_sc (List.mem_of_getElem? (i := 2) rfl) (e_sc (List.mem_of_getElem? (i := 1) rfl) (e_sc (List.mem_of_getElem? (i := 0) rfl) e_sn)))))
  · have h := h.2 c
    refine r_aload_n (kd211 rfl) rfl rfl ?_
    refine r_iload_n (kd211 rfl) rfl rfl ?_
    refine r_iload_n (kd211 rfl) rfl rfl ?_
    refine r_iconst (kd211 rfl) (y := 1) (by decide) rfl ?_
    refine r_iadd (kd211 rfl) rfl ?_
    obtain ⟨g, h⟩ := h
    refine r_callVI (d' := d - 1) (by omega) (kd211 rfl) (by decide) rfl rfl rfl rfl (Nat.le_of_ble_eq_true rfl) rfl L158 (Nat.le_of_ble_eq_true rfl) (Nat.le_of_ble_eq_true rfl) g (Nat.zero_le _) (Nat.zero_le _) rfl rfl rfl (b_Mod_byteAt (by omega) h) (fun x1 M1 h => ?_)
    refine r_goto (kd211 rfl) ?_
    exact (b_Mod_step_53 hd h).less (e_sc (List.mem_of_getElem? (i := 4) rfl) (e_sc (List.mem_of_getElem? (i := 3) rfl) (e_sc (List.mem_of_getElem? (i := 2) rfl) (e_sc (List.mem_of_getElem? (i := 1) rfl) (e_sc (List.mem_of_getElem? (i := 0) rfl) e_sn)))))
/-- TierMillModel.run(I)I -/
theorem kd215 {pc : Nat} {q : eI} (h : e_d215.lookup pc = some q) : e_dec 215 pc = some q := h
theorem L215 : (e_m 215).2.2.1 = 5 := rfl
theorem R215 : (e_m 215).2.2.2.1 = (some .int) := rfl
def w_Mod_run_145 (l0 : Nat) (l1 : Int32) (l2 : Int32) (s0 : Int32) (M : eM) (Q : Int32 → eM → Prop) (k56 : Nat → Int32 → Int32 → Int32 → eM → Prop) : Prop := k56 l0 l1 l2 s0 M
theorem b_Mod_run_145 {d : Nat} {l0 : Nat} {l1 : Int32} {l2 : Int32} {s0 : Int32} {M : eM} {Q : Int32 → eM → Prop} {k56 : Nat → Int32 → Int32 → Int32 → eM → Prop} (hd : 6 ≤ d) (hk56 : ∀ (l0 : Nat) (l1 : Int32) (l2 : Int32) (l3 : Int32) (M : eM), k56 l0 l1 l2 l3 M → e_E 215 d 0 0 56 [(0, .ref l0), (1, .int l1), (2, .int l2), (3, .int l3)] [] M (e_QI Q)) (h : w_Mod_run_145 l0 l1 l2 s0 M Q k56) : e_E 215 d 0 0 145 [(0, .ref l0), (1, .int l1), (2, .int l2)] [.int s0] M (e_QI Q) := by
  unfold w_Mod_run_145 at h
  refine r_istore_n (kd215 rfl) L215 (by decide) rfl rfl ?_
  refine r_goto (kd215 rfl) ?_
  exact (hk56 _ _ _ _ _ h).less (e_sc (List.mem_of_getElem? (i := 1) rfl) (e_sc (List.mem_of_getElem? (i := 2) rfl) (e_sc (List.mem_of_getElem? (i := 3) rfl) (e_sc (List.mem_of_getElem? (i := 0) rfl) e_sn))))
def w_Mod_run_144 (l0 : Nat) (l1 : Int32) (l2 : Int32) (M : eM) (Q : Int32 → eM → Prop) (k56 : Nat → Int32 → Int32 → Int32 → eM → Prop) : Prop := w_Mod_run_145 l0 l1 l2 0 M Q k56
theorem b_Mod_run_144 {d : Nat} {l0 : Nat} {l1 : Int32} {l2 : Int32} {M : eM} {Q : Int32 → eM → Prop} {k56 : Nat → Int32 → Int32 → Int32 → eM → Prop} (hd : 6 ≤ d) (hk56 : ∀ (l0 : Nat) (l1 : Int32) (l2 : Int32) (l3 : Int32) (M : eM), k56 l0 l1 l2 l3 M → e_E 215 d 0 0 56 [(0, .ref l0), (1, .int l1), (2, .int l2), (3, .int l3)] [] M (e_QI Q)) (h : w_Mod_run_144 l0 l1 l2 M Q k56) : e_E 215 d 0 0 144 [(0, .ref l0), (1, .int l1), (2, .int l2)] [] M (e_QI Q) := by
  unfold w_Mod_run_144 at h
  refine r_iconst (kd215 rfl) (y := 0) (by decide) rfl ?_
  exact (b_Mod_run_145 hd hk56 h).less (e_sc (List.mem_of_getElem? (i := 0) rfl) (e_sc (List.mem_of_getElem? (i := 1) rfl) (e_sc (List.mem_of_getElem? (i := 2) rfl) e_sn)))
def w_Mod_run_113 (l0 : Nat) (l1 : Int32) (l2 : Int32) (s0 : Int32) (s1 : Int32) (s2 : Nat) (M : eM) (Q : Int32 → eM → Prop) (k56 : Nat → Int32 → Int32 → Int32 → eM → Prop) : Prop := e_ob M s2 12 ∧ ∀ M14 : eM, M14 = e_si M s2 45 (s1 + s0) → e_ob M14 l0 12 ∧ (¬ (gi M14 l0 41) = 1 → w_Mod_run_144 l0 l1 l2 M14 Q k56) ∧ ((gi M14 l0 41) = 1 → (l1 ≤ l2 → w_Mod_run_144 l0 l1 l2 M14 Q k56) ∧ (¬ l1 ≤ l2 → e_ob M14 l0 12 ∧ (60000 ≤ (gi M14 l0 45) → w_Mod_run_144 l0 l1 l2 M14 Q k56) ∧ (¬ 60000 ≤ (gi M14 l0 45) → w_Mod_run_145 l0 l1 l2 1 M14 Q k56)))
theorem b_Mod_run_113 {d : Nat} {l0 : Nat} {l1 : Int32} {l2 : Int32} {s0 : Int32} {s1 : Int32} {s2 : Nat} {M : eM} {Q : Int32 → eM → Prop} {k56 : Nat → Int32 → Int32 → Int32 → eM → Prop} (hd : 6 ≤ d) (hk56 : ∀ (l0 : Nat) (l1 : Int32) (l2 : Int32) (l3 : Int32) (M : eM), k56 l0 l1 l2 l3 M → e_E 215 d 0 0 56 [(0, .ref l0), (1, .int l1), (2, .int l2), (3, .int l3)] [] M (e_QI Q)) (h : w_Mod_run_113 l0 l1 l2 s0 s1 s2 M Q k56) : e_E 215 d 0 0 113 [(0, .ref l0), (1, .int l1), (2, .int l2)] [.int s0, .int s1, .ref s2] M (e_QI Q) := by
  unfold w_Mod_run_113 at h
  refine r_iadd (kd215 rfl) rfl ?_
  obtain ⟨g, h⟩ := h
  have h := h _ rfl
  refine r_put0 (kd215 rfl) (by decide) rfl g rfl ?_
  refine r_aload_n (kd215 rfl) rfl rfl ?_
  obtain ⟨g, h⟩ := h
  refine r_get0 (kd215 rfl) (by decide) rfl g rfl ?_
  refine r_iconst (kd215 rfl) (y := 1) (by decide) rfl ?_
  refine r_icmp_ne (kd215 rfl) rfl (fun c => ?_) (fun c => ?_)
  · have h := h.1 c
    exact (b_Mod_run_144 hd hk56 h).less (e_sc (List.mem_of_getElem? (i := 0) rfl) (e_sc (List.mem_of_getElem? (i := 1) rfl) (e_sc (List.mem_of_getElem? (i := 2) rfl) e_sn)))
  · have h := h.2 c
    refine r_iload_n (kd215 rfl) rfl rfl ?_
    refine r_iload_n (kd215 rfl) rfl rfl ?_
    refine r_icmp_ge (kd215 rfl) rfl (fun c => ?_) (fun c => ?_)
    · have h := h.1 c
      exact (b_Mod_run_144 hd hk56 h).less (e_sc (List.mem_of_getElem? (i := 0) rfl) (e_sc (List.mem_of_getElem? (i := 1) rfl) (e_sc (List.mem_of_getElem? (i := 2) rfl) e_sn)))
    · have h := h.2 c
      refine r_aload_n (kd215 rfl) rfl rfl ?_
      obtain ⟨g, h⟩ := h
      refine r_get0 (kd215 rfl) (by decide) rfl g rfl ?_
      refine r_ldc_w (kd215 rfl) (y := 60000) (by decide) rfl ?_
      refine r_icmp_ge (kd215 rfl) rfl (fun c => ?_) (fun c => ?_)
      · have h := h.1 c
        exact (b_Mod_run_144 hd hk56 h).less (e_sc (List.mem_of_getElem? (i := 0) rfl) (e_sc (List.mem_of_getElem? (i := 1) rfl) (e_sc (List.mem_of_getElem? (i := 2) rfl) e_sn)))
      · have h := h.2 c
        refine r_iconst (kd215 rfl) (y := 1) (by decide) rfl ?_
        refine r_goto (kd215 rfl) ?_
        exact (b_Mod_run_145 hd hk56 h).less (e_sc (List.mem_of_getElem? (i := 0) rfl) (e_sc (List.mem_of_getElem? (i := 1) rfl) (e_sc (List.mem_of_getElem? (i := 2) rfl) e_sn)))
def w_Mod_run_94 (l0 : Nat) (l1 : Int32) (l2 : Int32) (l4 : Int32) (s0 : Int32) (s1 : Int32) (s2 : Nat) (M : eM) (Q : Int32 → eM → Prop) (k56 : Nat → Int32 → Int32 → Int32 → eM → Prop) : Prop := e_ob M s2 12 ∧ ∀ M13 : eM, M13 = e_si M s2 44 (s1 + s0) → e_ob M13 l0 12 ∧ (l4 = 0 → w_Mod_run_113 l0 l1 l2 0 (gi M13 l0 45) l0 M13 Q k56) ∧ (¬ l4 = 0 → w_Mod_run_113 l0 l1 l2 1 (gi M13 l0 45) l0 M13 Q k56)
theorem b_Mod_run_94 {d : Nat} {l0 : Nat} {l1 : Int32} {l2 : Int32} {l4 : Int32} {s0 : Int32} {s1 : Int32} {s2 : Nat} {M : eM} {Q : Int32 → eM → Prop} {k56 : Nat → Int32 → Int32 → Int32 → eM → Prop} (hd : 6 ≤ d) (hk56 : ∀ (l0 : Nat) (l1 : Int32) (l2 : Int32) (l3 : Int32) (M : eM), k56 l0 l1 l2 l3 M → e_E 215 d 0 0 56 [(0, .ref l0), (1, .int l1), (2, .int l2), (3, .int l3)] [] M (e_QI Q)) (h : w_Mod_run_94 l0 l1 l2 l4 s0 s1 s2 M Q k56) : e_E 215 d 0 0 94 [(0, .ref l0), (1, .int l1), (2, .int l2), (4, .int l4)] [.int s0, .int s1, .ref s2] M (e_QI Q) := by
  unfold w_Mod_run_94 at h
  refine r_iadd (kd215 rfl) rfl ?_
  obtain ⟨g, h⟩ := h
  have h := h _ rfl
  refine r_put0 (kd215 rfl) (by decide) rfl g rfl ?_
  refine r_aload_n (kd215 rfl) rfl rfl ?_
  refine r_dup (kd215 rfl) rfl rfl ?_
  obtain ⟨g, h⟩ := h
  refine r_get0 (kd215 rfl) (by decide) rfl g rfl ?_
  refine r_iload (kd215 rfl) rfl rfl ?_
  refine r_if_eq (kd215 rfl) rfl (fun c => ?_) (fun c => ?_)
  · have h := h.1 c
    refine r_iconst (kd215 rfl) (y := 0) (by decide) rfl ?_
    exact (b_Mod_run_113 hd hk56 h).less (e_sc (List.mem_of_getElem? (i := 0) rfl) (e_sc (List.mem_of_getElem? (i := 1) rfl) (e_sc (List.mem_of_getElem? (i := 2) rfl) e_sn)))
  · have h := h.2 c
    refine r_iconst (kd215 rfl) (y := 1) (by decide) rfl ?_
    refine r_goto (kd215 rfl) ?_
    exact (b_Mod_run_113 hd hk56 h).less (e_sc (List.mem_of_getElem? (i := 0) rfl) (e_sc (List.mem_of_getElem? (i := 1) rfl) (e_sc (List.mem_of_getElem? (i := 2) rfl) e_sn)))
def w_Mod_run_77 (l0 : Nat) (l1 : Int32) (l4 : Int32) (s0 : Int32) (s1 : Int32) (M : eM) (Q : Int32 → eM → Prop) (k56 : Nat → Int32 → Int32 → Int32 → eM → Prop) : Prop := e_ob M l0 12 ∧ (l4 = 0 → w_Mod_run_94 l0 l1 (s1 + s0) l4 0 (gi M l0 44) l0 M Q k56) ∧ (¬ l4 = 0 → w_Mod_run_94 l0 l1 (s1 + s0) l4 1 (gi M l0 44) l0 M Q k56)
theorem b_Mod_run_77 {d : Nat} {l0 : Nat} {l1 : Int32} {l4 : Int32} {s0 : Int32} {s1 : Int32} {M : eM} {Q : Int32 → eM → Prop} {k56 : Nat → Int32 → Int32 → Int32 → eM → Prop} (hd : 6 ≤ d) (hk56 : ∀ (l0 : Nat) (l1 : Int32) (l2 : Int32) (l3 : Int32) (M : eM), k56 l0 l1 l2 l3 M → e_E 215 d 0 0 56 [(0, .ref l0), (1, .int l1), (2, .int l2), (3, .int l3)] [] M (e_QI Q)) (h : w_Mod_run_77 l0 l1 l4 s0 s1 M Q k56) : e_E 215 d 0 0 77 [(0, .ref l0), (1, .int l1), (4, .int l4)] [.int s0, .int s1] M (e_QI Q) := by
  unfold w_Mod_run_77 at h
  refine r_iadd (kd215 rfl) rfl ?_
  refine r_istore_n (kd215 rfl) L215 (by decide) rfl rfl ?_
  refine r_aload_n (kd215 rfl) rfl rfl ?_
  refine r_dup (kd215 rfl) rfl rfl ?_
  obtain ⟨g, h⟩ := h
  refine r_get0 (kd215 rfl) (by decide) rfl g rfl ?_
  refine r_iload (kd215 rfl) rfl rfl ?_
  refine r_if_eq (kd215 rfl) rfl (fun c => ?_) (fun c => ?_)
  · have h := h.1 c
    refine r_iconst (kd215 rfl) (y := 0) (by decide) rfl ?_
    exact (b_Mod_run_94 hd hk56 h).less (e_sc (List.mem_of_getElem? (i := 1) rfl) (e_sc (List.mem_of_getElem? (i := 2) rfl) (e_sc (List.mem_of_getElem? (i := 0) rfl) (e_sc (List.mem_of_getElem? (i := 3) rfl) e_sn))))
  · have h := h.2 c
    refine r_iconst (kd215 rfl) (y := 1) (by decide) rfl ?_
    refine r_goto (kd215 rfl) ?_
    exact (b_Mod_run_94 hd hk56 h).less (e_sc (List.mem_of_getElem? (i := 1) rfl) (e_sc (List.mem_of_getElem? (i := 2) rfl) (e_sc (List.mem_of_getElem? (i := 0) rfl) (e_sc (List.mem_of_getElem? (i := 3) rfl) e_sn))))
def w_Mod_run_56 : Nat → Nat → Int32 → Int32 → Int32 → eM → (Int32 → eM → Prop) → Prop
  | 0, _, _, _, _, _, _ => False
  | n + 1, l0, l1, l2, l3, M, Q => (l3 = 0 → Q l2 M) ∧ (¬ l3 = 0 → e_ob M l0 12 ∧ w_Mod_step l0 M (fun (v12 : Int32) (M11 : eM) => (v12 = 0 → w_Mod_run_77 l0 l1 v12 0 l2 M11 Q (fun l0 l1 l2 l3 M => w_Mod_run_56 n l0 l1 l2 l3 M Q )) ∧ (¬ v12 = 0 → w_Mod_run_77 l0 l1 v12 1 l2 M11 Q (fun l0 l1 l2 l3 M => w_Mod_run_56 n l0 l1 l2 l3 M Q ))))
theorem b_Mod_run_56 {d : Nat} {Q : Int32 → eM → Prop} (hd : 6 ≤ d) (n : Nat) : ∀ (l0 : Nat) (l1 : Int32) (l2 : Int32) (l3 : Int32) (M : eM), w_Mod_run_56 n l0 l1 l2 l3 M Q → e_E 215 d 0 0 56 [(0, .ref l0), (1, .int l1), (2, .int l2), (3, .int l3)] [] M (e_QI Q) := by
  induction n with
  | zero => intro l0 l1 l2 l3 M h; exact False.elim h
  | succ n ih =>
    intro l0 l1 l2 l3 M h
    have hk56 := ih
    refine r_iload_n (kd215 rfl) rfl rfl ?_
    refine r_if_eq (kd215 rfl) rfl (fun c => ?_) (fun c => ?_)
    · have h := h.1 c
      refine r_iload_n (kd215 rfl) rfl rfl ?_
      exact r_ireturn (kd215 rfl) R215 h
    · have h := h.2 c
      refine r_aload_n (kd215 rfl) rfl rfl ?_
      obtain ⟨g, h⟩ := h
      refine r_callVI (d' := d - 1) (by omega) (kd215 rfl) (by decide) rfl rfl rfl rfl (Nat.le_of_ble_eq_true rfl) rfl L211 (Nat.le_of_ble_eq_true rfl) (Nat.le_of_ble_eq_true rfl) g (Nat.zero_le _) (Nat.zero_le _) rfl rfl rfl (b_Mod_step (by omega) h) (fun x1 M1 h => ?_)
      refine r_istore (kd215 rfl) L215 (by decide) rfl rfl ?_
      refine r_iload_n (kd215 rfl) rfl rfl ?_
      refine r_iload (kd215 rfl) rfl rfl ?_
      refine r_if_eq (kd215 rfl) rfl (fun c => ?_) (fun c => ?_)
      · have h := h.1 c
        refine r_iconst (kd215 rfl) (y := 0) (by decide) rfl ?_
        exact (b_Mod_run_77 hd hk56 h).less (e_sc (List.mem_of_getElem? (i := 1) rfl) (e_sc (List.mem_of_getElem? (i := 2) rfl) (e_sc (List.mem_of_getElem? (i := 0) rfl) e_sn)))
      · have h := h.2 c
        refine r_iconst (kd215 rfl) (y := 1) (by decide) rfl ?_
        refine r_goto (kd215 rfl) ?_
        exact (b_Mod_run_77 hd hk56 h).less (e_sc (List.mem_of_getElem? (i := 1) rfl) (e_sc (List.mem_of_getElem? (i := 2) rfl) (e_sc (List.mem_of_getElem? (i := 0) rfl) e_sn)))
def w_Mod_run (l0 : Nat) (l1 : Int32) (M : eM) (Q : Int32 → eM → Prop) : Prop := w_Mod_within l1 1 2000 M (fun (v2 : Int32) (M1 : eM) => (¬ v2 = 0 → e_ob M1 l0 12 ∧ ((gi M1 l0 41) = 1 → e_ob M1 l0 12 ∧ (¬ (gi M1 l0 45) = 60000 → e_ob M1 l0 12 ∧ ∀ M3 : eM, M3 = e_si M1 l0 0 0 → ∃ n4 : Nat, w_Mod_run_56 n4 l0 l1 0 1 M3 Q) ∧ ((gi M1 l0 45) = 60000 → e_ob M1 l0 12 ∧ w_Mod_raise l0 3 M1 (fun (v6 : Int32) (M5 : eM) => Q v6 M5))) ∧ (¬ (gi M1 l0 41) = 1 → e_ob M1 l0 12 ∧ w_Mod_raise l0 2 M1 (fun (v8 : Int32) (M7 : eM) => Q v8 M7))) ∧ (v2 = 0 → e_ob M1 l0 12 ∧ w_Mod_raise l0 1 M1 (fun (v10 : Int32) (M9 : eM) => Q v10 M9)))
theorem b_Mod_run {d : Nat} {l0 : Nat} {l1 : Int32} {M : eM} {Q : Int32 → eM → Prop} (hd : 6 ≤ d) (h : w_Mod_run l0 l1 M Q) : e_CI 215 d 0 0 [.ref l0, .int l1] M Q := by
  unfold w_Mod_run at h
  show e_E 215 d 0 0 0 [(0, .ref l0), (1, .int l1)] [] M (e_QI Q)
  refine r_iload_n (kd215 rfl) rfl rfl ?_
  refine r_iconst (kd215 rfl) (y := 1) (by decide) rfl ?_
  refine r_sipush (kd215 rfl) (y := 2000) (by decide) rfl ?_
  refine r_callSI (d' := d - 1) (by omega) (kd215 rfl) (by decide) rfl rfl rfl rfl (Nat.le_of_ble_eq_true rfl) rfl L145 (Nat.le_of_ble_eq_true rfl) (Nat.le_of_ble_eq_true rfl) (Nat.zero_le _) (Nat.zero_le _) rfl rfl rfl (b_Mod_within (by omega) h) (fun x1 M1 h => ?_)
  refine r_if_ne (kd215 rfl) rfl (fun c => ?_) (fun c => ?_)
  · have h := h.1 c
    refine r_aload_n (kd215 rfl) rfl rfl ?_
    obtain ⟨g, h⟩ := h
    refine r_get0 (kd215 rfl) (by decide) rfl g rfl ?_
    refine r_iconst (kd215 rfl) (y := 1) (by decide) rfl ?_
    refine r_icmp_eq (kd215 rfl) rfl (fun c => ?_) (fun c => ?_)
    · have h := h.1 c
      refine r_aload_n (kd215 rfl) rfl rfl ?_
      obtain ⟨g, h⟩ := h
      refine r_get0 (kd215 rfl) (by decide) rfl g rfl ?_
      refine r_ldc_w (kd215 rfl) (y := 60000) (by decide) rfl ?_
      refine r_icmp_ne (kd215 rfl) rfl (fun c => ?_) (fun c => ?_)
      · have h := h.1 c
        refine r_aload_n (kd215 rfl) rfl rfl ?_
        refine r_iconst (kd215 rfl) (y := 0) (by decide) rfl ?_
        obtain ⟨g, h⟩ := h
        have h := h _ rfl
        refine r_put0 (kd215 rfl) (by decide) rfl g rfl ?_
        refine r_iconst (kd215 rfl) (y := 0) (by decide) rfl ?_
        refine r_istore_n (kd215 rfl) L215 (by decide) rfl rfl ?_
        refine r_iconst (kd215 rfl) (y := 1) (by decide) rfl ?_
        refine r_istore_n (kd215 rfl) L215 (by decide) rfl rfl ?_
        obtain ⟨n, h⟩ := h
        exact (b_Mod_run_56 hd n _ _ _ _ _ h).less (e_sc (List.mem_of_getElem? (i := 2) rfl) (e_sc (List.mem_of_getElem? (i := 3) rfl) (e_sc (List.mem_of_getElem? (i := 1) rfl) (e_sc (List.mem_of_getElem? (i := 0) rfl) e_sn))))
      · have h := h.2 c
        refine r_aload_n (kd215 rfl) rfl rfl ?_
        refine r_iconst (kd215 rfl) (y := 3) (by decide) rfl ?_
        obtain ⟨g, h⟩ := h
        refine r_callVI (d' := d - 1) (by omega) (kd215 rfl) (by decide) rfl rfl rfl rfl (Nat.le_of_ble_eq_true rfl) rfl L144 (Nat.le_of_ble_eq_true rfl) (Nat.le_of_ble_eq_true rfl) g (Nat.zero_le _) (Nat.zero_le _) rfl rfl rfl (b_Mod_raise (by omega) h) (fun x1 M1 h => ?_)
        exact r_ireturn (kd215 rfl) R215 h
    · have h := h.2 c
      refine r_aload_n (kd215 rfl) rfl rfl ?_
      refine r_iconst (kd215 rfl) (y := 2) (by decide) rfl ?_
      obtain ⟨g, h⟩ := h
      refine r_callVI (d' := d - 1) (by omega) (kd215 rfl) (by decide) rfl rfl rfl rfl (Nat.le_of_ble_eq_true rfl) rfl L144 (Nat.le_of_ble_eq_true rfl) (Nat.le_of_ble_eq_true rfl) g (Nat.zero_le _) (Nat.zero_le _) rfl rfl rfl (b_Mod_raise (by omega) h) (fun x1 M1 h => ?_)
      exact r_ireturn (kd215 rfl) R215 h
  · have h := h.2 c
    refine r_aload_n (kd215 rfl) rfl rfl ?_
    refine r_iconst (kd215 rfl) (y := 1) (by decide) rfl ?_
    obtain ⟨g, h⟩ := h
    refine r_callVI (d' := d - 1) (by omega) (kd215 rfl) (by decide) rfl rfl rfl rfl (Nat.le_of_ble_eq_true rfl) rfl L144 (Nat.le_of_ble_eq_true rfl) (Nat.le_of_ble_eq_true rfl) g (Nat.zero_le _) (Nat.zero_le _) rfl rfl rfl (b_Mod_raise (by omega) h) (fun x1 M1 h => ?_)
    exact r_ireturn (kd215 rfl) R215 h
/-- TierMillModel.state()I -/
theorem kd216 {pc : Nat} {q : eI} (h : e_d216.lookup pc = some q) : e_dec 216 pc = some q := h
theorem L216 : (e_m 216).2.2.1 = 1 := rfl
theorem R216 : (e_m 216).2.2.2.1 = (some .int) := rfl
def w_Mod_state (l0 : Nat) (M : eM) (Q : Int32 → eM → Prop) : Prop := e_ob M l0 12 ∧ ∀ M1 : eM, M1 = e_si M l0 0 0 → e_ob M1 l0 12 ∧ Q (gi M1 l0 41) M1
theorem b_Mod_state {d : Nat} {l0 : Nat} {M : eM} {Q : Int32 → eM → Prop} (hd : 0 ≤ d) (h : w_Mod_state l0 M Q) : e_CI 216 d 0 0 [.ref l0] M Q := by
  unfold w_Mod_state at h
  show e_E 216 d 0 0 0 [(0, .ref l0)] [] M (e_QI Q)
  refine r_aload_n (kd216 rfl) rfl rfl ?_
  refine r_iconst (kd216 rfl) (y := 0) (by decide) rfl ?_
  obtain ⟨g, h⟩ := h
  have h := h _ rfl
  refine r_put0 (kd216 rfl) (by decide) rfl g rfl ?_
  refine r_aload_n (kd216 rfl) rfl rfl ?_
  obtain ⟨g, h⟩ := h
  refine r_get0 (kd216 rfl) (by decide) rfl g rfl ?_
  exact r_ireturn (kd216 rfl) R216 h
/-- TierMillModel.result(I)I -/
theorem kd217 {pc : Nat} {q : eI} (h : e_d217.lookup pc = some q) : e_dec 217 pc = some q := h
theorem L217 : (e_m 217).2.2.1 = 2 := rfl
theorem R217 : (e_m 217).2.2.2.1 = (some .int) := rfl
def w_Mod_result_49 (s0 : Int32) (M : eM) (Q : Int32 → eM → Prop) : Prop := Q s0 M
theorem b_Mod_result_49 {d : Nat} {s0 : Int32} {M : eM} {Q : Int32 → eM → Prop} (hd : 0 ≤ d) (h : w_Mod_result_49 s0 M Q ) : e_E 217 d 0 0 49 [] [.int s0] M (e_QI Q) := by
  unfold w_Mod_result_49 at h
  exact r_ireturn (kd217 rfl) R217 h
def w_Mod_result_34 (l0 : Nat) (l1 : Int32) (M : eM) (Q : Int32 → eM → Prop) : Prop := (¬ l1 = 0 → e_ob M l0 12 ∧ w_Mod_result_49 (gi M l0 43) M Q) ∧ (l1 = 0 → e_ob M l0 12 ∧ w_Mod_result_49 (gi M l0 42) M Q)
theorem b_Mod_result_34 {d : Nat} {l0 : Nat} {l1 : Int32} {M : eM} {Q : Int32 → eM → Prop} (hd : 0 ≤ d) (h : w_Mod_result_34 l0 l1 M Q ) : e_E 217 d 0 0 34 [(0, .ref l0), (1, .int l1)] [] M (e_QI Q) := by
  unfold w_Mod_result_34 at h
  refine r_iload_n (kd217 rfl) rfl rfl ?_
  refine r_if_ne (kd217 rfl) rfl (fun c => ?_) (fun c => ?_)
  · have h := h.1 c
    refine r_aload_n (kd217 rfl) rfl rfl ?_
    obtain ⟨g, h⟩ := h
    refine r_get0 (kd217 rfl) (by decide) rfl g rfl ?_
    exact (b_Mod_result_49 hd h).less e_sn
  · have h := h.2 c
    refine r_aload_n (kd217 rfl) rfl rfl ?_
    obtain ⟨g, h⟩ := h
    refine r_get0 (kd217 rfl) (by decide) rfl g rfl ?_
    refine r_goto (kd217 rfl) ?_
    exact (b_Mod_result_49 hd h).less e_sn
def w_Mod_result_16 (l0 : Nat) (l1 : Int32) (M : eM) (Q : Int32 → eM → Prop) : Prop := e_ob M l0 12 ∧ ((gi M l0 41) = 2 → w_Mod_result_34 l0 l1 M Q) ∧ (¬ (gi M l0 41) = 2 → e_ob M l0 12 ∧ ((gi M l0 41) = 3 → w_Mod_result_34 l0 l1 M Q) ∧ (¬ (gi M l0 41) = 3 → Q (0 : Int32) M))
theorem b_Mod_result_16 {d : Nat} {l0 : Nat} {l1 : Int32} {M : eM} {Q : Int32 → eM → Prop} (hd : 0 ≤ d) (h : w_Mod_result_16 l0 l1 M Q ) : e_E 217 d 0 0 16 [(0, .ref l0), (1, .int l1)] [] M (e_QI Q) := by
  unfold w_Mod_result_16 at h
  refine r_aload_n (kd217 rfl) rfl rfl ?_
  obtain ⟨g, h⟩ := h
  refine r_get0 (kd217 rfl) (by decide) rfl g rfl ?_
  refine r_iconst (kd217 rfl) (y := 2) (by decide) rfl ?_
  refine r_icmp_eq (kd217 rfl) rfl (fun c => ?_) (fun c => ?_)
  · have h := h.1 c
    exact (b_Mod_result_34 hd h).less (e_sc (List.mem_of_getElem? (i := 0) rfl) (e_sc (List.mem_of_getElem? (i := 1) rfl) e_sn))
  · have h := h.2 c
    refine r_aload_n (kd217 rfl) rfl rfl ?_
    obtain ⟨g, h⟩ := h
    refine r_get0 (kd217 rfl) (by decide) rfl g rfl ?_
    refine r_iconst (kd217 rfl) (y := 3) (by decide) rfl ?_
    refine r_icmp_eq (kd217 rfl) rfl (fun c => ?_) (fun c => ?_)
    · have h := h.1 c
      exact (b_Mod_result_34 hd h).less (e_sc (List.mem_of_getElem? (i := 0) rfl) (e_sc (List.mem_of_getElem? (i := 1) rfl) e_sn))
    · have h := h.2 c
      refine r_iconst (kd217 rfl) (y := 0) (by decide) rfl ?_
      exact r_ireturn (kd217 rfl) R217 h
def w_Mod_result (l0 : Nat) (l1 : Int32) (M : eM) (Q : Int32 → eM → Prop) : Prop := e_ob M l0 12 ∧ ∀ M1 : eM, M1 = e_si M l0 0 0 → (l1 = 0 → w_Mod_result_16 l0 l1 M1 Q) ∧ (¬ l1 = 0 → (l1 = 1 → w_Mod_result_16 l0 l1 M1 Q) ∧ (¬ l1 = 1 → Q ((-1) : Int32) M1))
theorem b_Mod_result {d : Nat} {l0 : Nat} {l1 : Int32} {M : eM} {Q : Int32 → eM → Prop} (hd : 0 ≤ d) (h : w_Mod_result l0 l1 M Q) : e_CI 217 d 0 0 [.ref l0, .int l1] M Q := by
  unfold w_Mod_result at h
  show e_E 217 d 0 0 0 [(0, .ref l0), (1, .int l1)] [] M (e_QI Q)
  refine r_aload_n (kd217 rfl) rfl rfl ?_
  refine r_iconst (kd217 rfl) (y := 0) (by decide) rfl ?_
  obtain ⟨g, h⟩ := h
  have h := h _ rfl
  refine r_put0 (kd217 rfl) (by decide) rfl g rfl ?_
  refine r_iload_n (kd217 rfl) rfl rfl ?_
  refine r_if_eq (kd217 rfl) rfl (fun c => ?_) (fun c => ?_)
  · have h := h.1 c
    exact (b_Mod_result_16 hd h).less (e_sc (List.mem_of_getElem? (i := 0) rfl) (e_sc (List.mem_of_getElem? (i := 1) rfl) e_sn))
  · have h := h.2 c
    refine r_iload_n (kd217 rfl) rfl rfl ?_
    refine r_iconst (kd217 rfl) (y := 1) (by decide) rfl ?_
    refine r_icmp_eq (kd217 rfl) rfl (fun c => ?_) (fun c => ?_)
    · have h := h.1 c
      exact (b_Mod_result_16 hd h).less (e_sc (List.mem_of_getElem? (i := 0) rfl) (e_sc (List.mem_of_getElem? (i := 1) rfl) e_sn))
    · have h := h.2 c
      refine r_iconst (kd217 rfl) (y := (-1)) (by decide) rfl ?_
      exact r_ireturn (kd217 rfl) R217 h
/-- TierMillModel.output(I)I -/
theorem kd218 {pc : Nat} {q : eI} (h : e_d218.lookup pc = some q) : e_dec 218 pc = some q := h
theorem L218 : (e_m 218).2.2.1 = 2 := rfl
theorem R218 : (e_m 218).2.2.2.1 = (some .int) := rfl
def w_Mod_output_52 (s0 : Int32) (M : eM) (Q : Int32 → eM → Prop) : Prop := Q s0 M
theorem b_Mod_output_52 {d : Nat} {s0 : Int32} {M : eM} {Q : Int32 → eM → Prop} (hd : 0 ≤ d) (h : w_Mod_output_52 s0 M Q ) : e_E 218 d 0 0 52 [] [.int s0] M (e_QI Q) := by
  unfold w_Mod_output_52 at h
  exact r_ireturn (kd218 rfl) R218 h
def w_Mod_output_32 (l0 : Nat) (l1 : Int32) (s0 : Int32) (s1 : Nat) (M : eM) (Q : Int32 → eM → Prop) : Prop := e_ob M s1 12 ∧ ∀ M1 : eM, M1 = e_si M s1 0 s0 → e_ob M1 l0 12 ∧ (¬ (gi M1 l0 0) = 0 → w_Mod_output_52 0 M1 Q) ∧ ((gi M1 l0 0) = 0 → e_ob M1 l0 12 ∧ e_ai M1 (gr M1 l0 48) l1 ∧ w_Mod_output_52 (gi M1 (gr M1 l0 48) l1.toNatClampNeg) M1 Q)
theorem b_Mod_output_32 {d : Nat} {l0 : Nat} {l1 : Int32} {s0 : Int32} {s1 : Nat} {M : eM} {Q : Int32 → eM → Prop} (hd : 0 ≤ d) (h : w_Mod_output_32 l0 l1 s0 s1 M Q ) : e_E 218 d 0 0 32 [(0, .ref l0), (1, .int l1)] [.int s0, .ref s1] M (e_QI Q) := by
  unfold w_Mod_output_32 at h
  obtain ⟨g, h⟩ := h
  have h := h _ rfl
  refine r_put0 (kd218 rfl) (by decide) rfl g rfl ?_
  refine r_aload_n (kd218 rfl) rfl rfl ?_
  obtain ⟨g, h⟩ := h
  refine r_get0 (kd218 rfl) (by decide) rfl g rfl ?_
  refine r_if_ne (kd218 rfl) rfl (fun c => ?_) (fun c => ?_)
  · have h := h.1 c
    refine r_iconst (kd218 rfl) (y := 0) (by decide) rfl ?_
    exact (b_Mod_output_52 hd h).less e_sn
  · have h := h.2 c
    refine r_aload_n (kd218 rfl) rfl rfl ?_
    obtain ⟨g, h⟩ := h
    refine r_get2 (kd218 rfl) (by decide) rfl g rfl ?_
    refine r_iload_n (kd218 rfl) rfl rfl ?_
    obtain ⟨g, h⟩ := h
    refine r_iaload (kd218 rfl) g rfl ?_
    refine r_goto (kd218 rfl) ?_
    exact (b_Mod_output_52 hd h).less e_sn
def w_Mod_output_31 (l0 : Nat) (l1 : Int32) (s0 : Nat) (M : eM) (Q : Int32 → eM → Prop) : Prop := w_Mod_output_32 l0 l1 1 s0 M Q
theorem b_Mod_output_31 {d : Nat} {l0 : Nat} {l1 : Int32} {s0 : Nat} {M : eM} {Q : Int32 → eM → Prop} (hd : 0 ≤ d) (h : w_Mod_output_31 l0 l1 s0 M Q ) : e_E 218 d 0 0 31 [(0, .ref l0), (1, .int l1)] [.ref s0] M (e_QI Q) := by
  unfold w_Mod_output_31 at h
  refine r_iconst (kd218 rfl) (y := 1) (by decide) rfl ?_
  exact (b_Mod_output_32 hd h).less (e_sc (List.mem_of_getElem? (i := 0) rfl) (e_sc (List.mem_of_getElem? (i := 1) rfl) e_sn))
def w_Mod_output (l0 : Nat) (l1 : Int32) (M : eM) (Q : Int32 → eM → Prop) : Prop := e_ob M l0 12 ∧ ((gi M l0 41) = 0 → w_Mod_output_31 l0 l1 l0 M Q) ∧ (¬ (gi M l0 41) = 0 → (l1 < 0 → w_Mod_output_31 l0 l1 l0 M Q) ∧ (¬ l1 < 0 → e_ob M l0 12 ∧ ((gi M l0 47) ≤ l1 → w_Mod_output_31 l0 l1 l0 M Q) ∧ (¬ (gi M l0 47) ≤ l1 → (500 ≤ l1 → w_Mod_output_31 l0 l1 l0 M Q) ∧ (¬ 500 ≤ l1 → w_Mod_output_32 l0 l1 0 l0 M Q))))
theorem b_Mod_output {d : Nat} {l0 : Nat} {l1 : Int32} {M : eM} {Q : Int32 → eM → Prop} (hd : 0 ≤ d) (h : w_Mod_output l0 l1 M Q) : e_CI 218 d 0 0 [.ref l0, .int l1] M Q := by
  unfold w_Mod_output at h
  show e_E 218 d 0 0 0 [(0, .ref l0), (1, .int l1)] [] M (e_QI Q)
  refine r_aload_n (kd218 rfl) rfl rfl ?_
  refine r_aload_n (kd218 rfl) rfl rfl ?_
  obtain ⟨g, h⟩ := h
  refine r_get0 (kd218 rfl) (by decide) rfl g rfl ?_
  refine r_if_eq (kd218 rfl) rfl (fun c => ?_) (fun c => ?_)
  · have h := h.1 c
    exact (b_Mod_output_31 hd h).less (e_sc (List.mem_of_getElem? (i := 0) rfl) (e_sc (List.mem_of_getElem? (i := 1) rfl) e_sn))
  · have h := h.2 c
    refine r_iload_n (kd218 rfl) rfl rfl ?_
    refine r_if_lt (kd218 rfl) rfl (fun c => ?_) (fun c => ?_)
    · have h := h.1 c
      exact (b_Mod_output_31 hd h).less (e_sc (List.mem_of_getElem? (i := 0) rfl) (e_sc (List.mem_of_getElem? (i := 1) rfl) e_sn))
    · have h := h.2 c
      refine r_iload_n (kd218 rfl) rfl rfl ?_
      refine r_aload_n (kd218 rfl) rfl rfl ?_
      obtain ⟨g, h⟩ := h
      refine r_get0 (kd218 rfl) (by decide) rfl g rfl ?_
      refine r_icmp_ge (kd218 rfl) rfl (fun c => ?_) (fun c => ?_)
      · have h := h.1 c
        exact (b_Mod_output_31 hd h).less (e_sc (List.mem_of_getElem? (i := 0) rfl) (e_sc (List.mem_of_getElem? (i := 1) rfl) e_sn))
      · have h := h.2 c
        refine r_iload_n (kd218 rfl) rfl rfl ?_
        refine r_sipush (kd218 rfl) (y := 500) (by decide) rfl ?_
        refine r_icmp_ge (kd218 rfl) rfl (fun c => ?_) (fun c => ?_)
        · have h := h.1 c
          exact (b_Mod_output_31 hd h).less (e_sc (List.mem_of_getElem? (i := 0) rfl) (e_sc (List.mem_of_getElem? (i := 1) rfl) e_sn))
        · have h := h.2 c
          refine r_iconst (kd218 rfl) (y := 0) (by decide) rfl ?_
          refine r_goto (kd218 rfl) ?_
          exact (b_Mod_output_32 hd h).less (e_sc (List.mem_of_getElem? (i := 0) rfl) (e_sc (List.mem_of_getElem? (i := 1) rfl) e_sn))
/-- TierMillModel.frameOf(I)I -/
theorem kd219 {pc : Nat} {q : eI} (h : e_d219.lookup pc = some q) : e_dec 219 pc = some q := h
theorem L219 : (e_m 219).2.2.1 = 2 := rfl
theorem R219 : (e_m 219).2.2.2.1 = (some .int) := rfl
def w_Mod_frameOf_33 (s0 : Int32) (M : eM) (Q : Int32 → eM → Prop) : Prop := Q s0 M
theorem b_Mod_frameOf_33 {d : Nat} {s0 : Int32} {M : eM} {Q : Int32 → eM → Prop} (hd : 1 ≤ d) (h : w_Mod_frameOf_33 s0 M Q ) : e_E 219 d 0 0 33 [] [.int s0] M (e_QI Q) := by
  unfold w_Mod_frameOf_33 at h
  exact r_ireturn (kd219 rfl) R219 h
def w_Mod_frameOf_21 (M : eM) (Q : Int32 → eM → Prop) : Prop := w_Mod_frameOf_33 (-1) M Q
theorem b_Mod_frameOf_21 {d : Nat} {M : eM} {Q : Int32 → eM → Prop} (hd : 1 ≤ d) (h : w_Mod_frameOf_21 M Q ) : e_E 219 d 0 0 21 [] [] M (e_QI Q) := by
  unfold w_Mod_frameOf_21 at h
  refine r_iconst (kd219 rfl) (y := (-1)) (by decide) rfl ?_
  refine r_goto (kd219 rfl) ?_
  exact (b_Mod_frameOf_33 hd h).less e_sn
def w_Mod_frameOf (l0 : Nat) (l1 : Int32) (M : eM) (Q : Int32 → eM → Prop) : Prop := e_ob M l0 12 ∧ ((gi M l0 41) = 0 → w_Mod_frameOf_21 M Q) ∧ (¬ (gi M l0 41) = 0 → e_ob M l0 12 ∧ w_Mod_within l1 0 ((gi M l0 60) - 1) M (fun (v2 : Int32) (M1 : eM) => (¬ v2 = 0 → e_ob M1 l0 12 ∧ w_Mod_frameOf_33 (((gi M1 l0 60) - 1) - l1) M1 Q) ∧ (v2 = 0 → w_Mod_frameOf_21 M1 Q)))
theorem b_Mod_frameOf {d : Nat} {l0 : Nat} {l1 : Int32} {M : eM} {Q : Int32 → eM → Prop} (hd : 1 ≤ d) (h : w_Mod_frameOf l0 l1 M Q) : e_CI 219 d 0 0 [.ref l0, .int l1] M Q := by
  unfold w_Mod_frameOf at h
  show e_E 219 d 0 0 0 [(0, .ref l0), (1, .int l1)] [] M (e_QI Q)
  refine r_aload_n (kd219 rfl) rfl rfl ?_
  obtain ⟨g, h⟩ := h
  refine r_get0 (kd219 rfl) (by decide) rfl g rfl ?_
  refine r_if_eq (kd219 rfl) rfl (fun c => ?_) (fun c => ?_)
  · have h := h.1 c
    exact (b_Mod_frameOf_21 hd h).less e_sn
  · have h := h.2 c
    refine r_iload_n (kd219 rfl) rfl rfl ?_
    refine r_iconst (kd219 rfl) (y := 0) (by decide) rfl ?_
    refine r_aload_n (kd219 rfl) rfl rfl ?_
    obtain ⟨g, h⟩ := h
    refine r_get0 (kd219 rfl) (by decide) rfl g rfl ?_
    refine r_iconst (kd219 rfl) (y := 1) (by decide) rfl ?_
    refine r_isub (kd219 rfl) rfl ?_
    refine r_callSI (d' := d - 1) (by omega) (kd219 rfl) (by decide) rfl rfl rfl rfl (Nat.le_of_ble_eq_true rfl) rfl L145 (Nat.le_of_ble_eq_true rfl) (Nat.le_of_ble_eq_true rfl) (Nat.zero_le _) (Nat.zero_le _) rfl rfl rfl (b_Mod_within (by omega) h) (fun x1 M1 h => ?_)
    refine r_if_ne (kd219 rfl) rfl (fun c => ?_) (fun c => ?_)
    · have h := h.1 c
      refine r_aload_n (kd219 rfl) rfl rfl ?_
      obtain ⟨g, h⟩ := h
      refine r_get0 (kd219 rfl) (by decide) rfl g rfl ?_
      refine r_iconst (kd219 rfl) (y := 1) (by decide) rfl ?_
      refine r_isub (kd219 rfl) rfl ?_
      refine r_iload_n (kd219 rfl) rfl rfl ?_
      refine r_isub (kd219 rfl) rfl ?_
      exact (b_Mod_frameOf_33 hd h).less e_sn
    · have h := h.2 c
      exact (b_Mod_frameOf_21 hd h).less e_sn
/-- TierMillModel.frame(II)I -/
theorem kd220 {pc : Nat} {q : eI} (h : e_d220.lookup pc = some q) : e_dec 220 pc = some q := h
theorem L220 : (e_m 220).2.2.1 = 4 := rfl
theorem R220 : (e_m 220).2.2.2.1 = (some .int) := rfl
def w_Mod_frame (l0 : Nat) (l1 : Int32) (l2 : Int32) (M : eM) (Q : Int32 → eM → Prop) : Prop := e_ob M l0 12 ∧ ∀ M1 : eM, M1 = e_si M l0 0 0 → e_ob M1 l0 12 ∧ w_Mod_frameOf l0 l1 M1 (fun (v3 : Int32) (M2 : eM) => (¬ v3 = (-1) → (l2 = 0 → e_ob M2 l0 12 ∧ e_ai M2 (gr M2 l0 61) v3 ∧ Q (gi M2 (gr M2 l0 61) v3.toNatClampNeg) M2) ∧ (¬ l2 = 0 → (l2 = 1 → e_ob M2 l0 12 ∧ e_ai M2 (gr M2 l0 62) v3 ∧ Q (gi M2 (gr M2 l0 62) v3.toNatClampNeg) M2) ∧ (¬ l2 = 1 → (l2 = 2 → e_ob M2 l0 12 ∧ e_ai M2 (gr M2 l0 64) v3 ∧ Q (gi M2 (gr M2 l0 64) v3.toNatClampNeg) M2) ∧ (¬ l2 = 2 → (l2 = 3 → e_ob M2 l0 12 ∧ e_ai M2 (gr M2 l0 67) v3 ∧ Q (gi M2 (gr M2 l0 67) v3.toNatClampNeg) M2) ∧ (¬ l2 = 3 → Q ((-1) : Int32) M2))))) ∧ (v3 = (-1) → Q ((-1) : Int32) M2))
theorem b_Mod_frame {d : Nat} {l0 : Nat} {l1 : Int32} {l2 : Int32} {M : eM} {Q : Int32 → eM → Prop} (hd : 2 ≤ d) (h : w_Mod_frame l0 l1 l2 M Q) : e_CI 220 d 0 0 [.ref l0, .int l1, .int l2] M Q := by
  unfold w_Mod_frame at h
  show e_E 220 d 0 0 0 [(0, .ref l0), (1, .int l1), (2, .int l2)] [] M (e_QI Q)
  refine r_aload_n (kd220 rfl) rfl rfl ?_
  refine r_iconst (kd220 rfl) (y := 0) (by decide) rfl ?_
  obtain ⟨g, h⟩ := h
  have h := h _ rfl
  refine r_put0 (kd220 rfl) (by decide) rfl g rfl ?_
  refine r_aload_n (kd220 rfl) rfl rfl ?_
  refine r_iload_n (kd220 rfl) rfl rfl ?_
  obtain ⟨g, h⟩ := h
  refine r_callVI (d' := d - 1) (by omega) (kd220 rfl) (by decide) rfl rfl rfl rfl (Nat.le_of_ble_eq_true rfl) rfl L219 (Nat.le_of_ble_eq_true rfl) (Nat.le_of_ble_eq_true rfl) g (Nat.zero_le _) (Nat.zero_le _) rfl rfl rfl (b_Mod_frameOf (by omega) h) (fun x1 M1 h => ?_)
  refine r_istore_n (kd220 rfl) L220 (by decide) rfl rfl ?_
  refine r_iload_n (kd220 rfl) rfl rfl ?_
  refine r_iconst (kd220 rfl) (y := (-1)) (by decide) rfl ?_
  refine r_icmp_ne (kd220 rfl) rfl (fun c => ?_) (fun c => ?_)
  · have h := h.1 c
    refine r_iload_n (kd220 rfl) rfl rfl ?_
    refine r_tableswitch (kd220 rfl) (u := 76) (qs := [(0, 48), (1, 55), (2, 62), (3, 69)]) rfl rfl rfl (by decide) ?_
    refine ⟨fun c => ?_, fun c => ?_⟩
    · have h := h.1 c
      refine r_aload_n (kd220 rfl) rfl rfl ?_
      obtain ⟨g, h⟩ := h
      refine r_get2 (kd220 rfl) (by decide) rfl g rfl ?_
      refine r_iload_n (kd220 rfl) rfl rfl ?_
      obtain ⟨g, h⟩ := h
      refine r_iaload (kd220 rfl) g rfl ?_
      exact r_ireturn (kd220 rfl) R220 h
    have h := h.2 c
    refine ⟨fun c => ?_, fun c => ?_⟩
    · have h := h.1 c
      refine r_aload_n (kd220 rfl) rfl rfl ?_
      obtain ⟨g, h⟩ := h
      refine r_get2 (kd220 rfl) (by decide) rfl g rfl ?_
      refine r_iload_n (kd220 rfl) rfl rfl ?_
      obtain ⟨g, h⟩ := h
      refine r_iaload (kd220 rfl) g rfl ?_
      exact r_ireturn (kd220 rfl) R220 h
    have h := h.2 c
    refine ⟨fun c => ?_, fun c => ?_⟩
    · have h := h.1 c
      refine r_aload_n (kd220 rfl) rfl rfl ?_
      obtain ⟨g, h⟩ := h
      refine r_get2 (kd220 rfl) (by decide) rfl g rfl ?_
      refine r_iload_n (kd220 rfl) rfl rfl ?_
      obtain ⟨g, h⟩ := h
      refine r_iaload (kd220 rfl) g rfl ?_
      exact r_ireturn (kd220 rfl) R220 h
    have h := h.2 c
    refine ⟨fun c => ?_, fun c => ?_⟩
    · have h := h.1 c
      refine r_aload_n (kd220 rfl) rfl rfl ?_
      obtain ⟨g, h⟩ := h
      refine r_get2 (kd220 rfl) (by decide) rfl g rfl ?_
      refine r_iload_n (kd220 rfl) rfl rfl ?_
      obtain ⟨g, h⟩ := h
      refine r_iaload (kd220 rfl) g rfl ?_
      exact r_ireturn (kd220 rfl) R220 h
    have h := h.2 c
    show e_E 220 _ _ _ 76 _ _ _ _
    refine r_iconst (kd220 rfl) (y := (-1)) (by decide) rfl ?_
    exact r_ireturn (kd220 rfl) R220 h
  · have h := h.2 c
    refine r_iconst (kd220 rfl) (y := (-1)) (by decide) rfl ?_
    exact r_ireturn (kd220 rfl) R220 h
/-- TierMillModel.find(II)V -/
theorem kd221 {pc : Nat} {q : eI} (h : e_d221.lookup pc = some q) : e_dec 221 pc = some q := h
theorem L221 : (e_m 221).2.2.1 = 5 := rfl
theorem R221 : (e_m 221).2.2.2.1 = none := rfl
def w_Mod_find_131 (M : eM) (Q : eM → Prop) : Prop := Q M
theorem b_Mod_find_131 {d : Nat} {M : eM} {Q : eM → Prop} (hd : 2 ≤ d) (h : w_Mod_find_131 M Q ) : e_E 221 d 0 0 131 [] [] M (e_QV Q) := by
  unfold w_Mod_find_131 at h
  exact r_return (kd221 rfl) R221 h
def w_Mod_find (l0 : Nat) (l1 : Int32) (l2 : Int32) (M : eM) (Q : eM → Prop) : Prop := e_ob M l0 12 ∧ w_Mod_frameOf l0 l1 M (fun (v2 : Int32) (M1 : eM) => e_ob M1 l0 12 ∧ ∀ M3 : eM, M3 = e_si M1 l0 90 0 → (¬ v2 = (-1) → e_ob M3 l0 12 ∧ w_Mod_rowOf l0 v2 M3 (fun (v5 : Int32) (M4 : eM) => e_ob M4 l0 12 ∧ e_ob M4 l0 12 ∧ e_ai M4 (gr M4 l0 61) v2 ∧ e_ai M4 (gr M4 l0 23) (gi M4 (gr M4 l0 61) v2.toNatClampNeg) ∧ w_Mod_within l2 0 ((gi M4 (gr M4 l0 23) (gi M4 (gr M4 l0 61) v2.toNatClampNeg).toNatClampNeg) - 1) M4 (fun (v7 : Int32) (M6 : eM) => (v7 = 0 → e_ob M6 l0 12 ∧ e_ai M6 (gr M6 l0 67) v2 ∧ w_Mod_within l2 100 (99 + (gi M6 (gr M6 l0 67) v2.toNatClampNeg)) M6 (fun (v9 : Int32) (M8 : eM) => (v9 = 0 → w_Mod_find_131 M8 Q) ∧ (¬ v9 = 0 → e_ob M8 l0 12 ∧ e_ai M8 (gr M8 l0 30) (((16 * v5) + l2) - 92) ∧ e_ob M8 l0 12 ∧ ∀ M10 : eM, M10 = e_si M8 l0 90 (gi M8 (gr M8 l0 30) (((16 * v5) + l2) - 92).toNatClampNeg) → e_ob M10 l0 12 ∧ e_ai M10 (gr M10 l0 69) (((8 * v2) + l2) - 100) ∧ e_ob M10 l0 12 ∧ ∀ M11 : eM, M11 = e_si M10 l0 91 (gi M10 (gr M10 l0 69) (((8 * v2) + l2) - 100).toNatClampNeg) → w_Mod_find_131 M11 Q))) ∧ (¬ v7 = 0 → e_ob M6 l0 12 ∧ e_ai M6 (gr M6 l0 30) ((16 * v5) + l2) ∧ e_ob M6 l0 12 ∧ ∀ M12 : eM, M12 = e_si M6 l0 90 (gi M6 (gr M6 l0 30) ((16 * v5) + l2).toNatClampNeg) → e_ob M12 l0 12 ∧ e_ai M12 (gr M12 l0 68) ((8 * v2) + l2) ∧ e_ob M12 l0 12 ∧ ∀ M13 : eM, M13 = e_si M12 l0 91 (gi M12 (gr M12 l0 68) ((8 * v2) + l2).toNatClampNeg) → w_Mod_find_131 M13 Q)))) ∧ (v2 = (-1) → Q M3))
theorem b_Mod_find {d : Nat} {l0 : Nat} {l1 : Int32} {l2 : Int32} {M : eM} {Q : eM → Prop} (hd : 2 ≤ d) (h : w_Mod_find l0 l1 l2 M Q) : e_CV 221 d 0 0 [.ref l0, .int l1, .int l2] M Q := by
  unfold w_Mod_find at h
  show e_E 221 d 0 0 0 [(0, .ref l0), (1, .int l1), (2, .int l2)] [] M (e_QV Q)
  refine r_aload_n (kd221 rfl) rfl rfl ?_
  refine r_iload_n (kd221 rfl) rfl rfl ?_
  obtain ⟨g, h⟩ := h
  refine r_callVI (d' := d - 1) (by omega) (kd221 rfl) (by decide) rfl rfl rfl rfl (Nat.le_of_ble_eq_true rfl) rfl L219 (Nat.le_of_ble_eq_true rfl) (Nat.le_of_ble_eq_true rfl) g (Nat.zero_le _) (Nat.zero_le _) rfl rfl rfl (b_Mod_frameOf (by omega) h) (fun x1 M1 h => ?_)
  refine r_istore_n (kd221 rfl) L221 (by decide) rfl rfl ?_
  refine r_aload_n (kd221 rfl) rfl rfl ?_
  refine r_iconst (kd221 rfl) (y := 0) (by decide) rfl ?_
  obtain ⟨g, h⟩ := h
  have h := h _ rfl
  refine r_put0 (kd221 rfl) (by decide) rfl g rfl ?_
  refine r_iload_n (kd221 rfl) rfl rfl ?_
  refine r_iconst (kd221 rfl) (y := (-1)) (by decide) rfl ?_
  refine r_icmp_ne (kd221 rfl) rfl (fun c => ?_) (fun c => ?_)
  · have h := h.1 c
    refine r_bipush (kd221 rfl) (y := 16) (by decide) rfl ?_
    refine r_aload_n (kd221 rfl) rfl rfl ?_
    refine r_iload_n (kd221 rfl) rfl rfl ?_
    obtain ⟨g, h⟩ := h
    refine r_callVI (d' := d - 1) (by omega) (kd221 rfl) (by decide) rfl rfl rfl rfl (Nat.le_of_ble_eq_true rfl) rfl L199 (Nat.le_of_ble_eq_true rfl) (Nat.le_of_ble_eq_true rfl) g (Nat.zero_le _) (Nat.zero_le _) rfl rfl rfl (b_Mod_rowOf (by omega) h) (fun x1 M1 h => ?_)
    refine r_imul (kd221 rfl) rfl ?_
    refine r_istore (kd221 rfl) L221 (by decide) rfl rfl ?_
    refine r_iload_n (kd221 rfl) rfl rfl ?_
    refine r_iconst (kd221 rfl) (y := 0) (by decide) rfl ?_
    refine r_aload_n (kd221 rfl) rfl rfl ?_
    obtain ⟨g, h⟩ := h
    refine r_get2 (kd221 rfl) (by decide) rfl g rfl ?_
    refine r_aload_n (kd221 rfl) rfl rfl ?_
    obtain ⟨g, h⟩ := h
    refine r_get2 (kd221 rfl) (by decide) rfl g rfl ?_
    refine r_iload_n (kd221 rfl) rfl rfl ?_
    obtain ⟨g, h⟩ := h
    refine r_iaload (kd221 rfl) g rfl ?_
    obtain ⟨g, h⟩ := h
    refine r_iaload (kd221 rfl) g rfl ?_
    refine r_iconst (kd221 rfl) (y := 1) (by decide) rfl ?_
    refine r_isub (kd221 rfl) rfl ?_
    refine r_callSI (d' := d - 1) (by omega) (kd221 rfl) (by decide) rfl rfl rfl rfl (Nat.le_of_ble_eq_true rfl) rfl L145 (Nat.le_of_ble_eq_true rfl) (Nat.le_of_ble_eq_true rfl) (Nat.zero_le _) (Nat.zero_le _) rfl rfl rfl (b_Mod_within (by omega) h) (fun x1 M1 h => ?_)
    refine r_if_eq (kd221 rfl) rfl (fun c => ?_) (fun c => ?_)
    · have h := h.1 c
      refine r_iload_n (kd221 rfl) rfl rfl ?_
      refine r_bipush (kd221 rfl) (y := 100) (by decide) rfl ?_
      refine r_bipush (kd221 rfl) (y := 99) (by decide) rfl ?_
      refine r_aload_n (kd221 rfl) rfl rfl ?_
      obtain ⟨g, h⟩ := h
      refine r_get2 (kd221 rfl) (by decide) rfl g rfl ?_
      refine r_iload_n (kd221 rfl) rfl rfl ?_
      obtain ⟨g, h⟩ := h
      refine r_iaload (kd221 rfl) g rfl ?_
      refine r_iadd (kd221 rfl) rfl ?_
      refine r_callSI (d' := d - 1) (by omega) (kd221 rfl) (by decide) rfl rfl rfl rfl (Nat.le_of_ble_eq_true rfl) rfl L145 (Nat.le_of_ble_eq_true rfl) (Nat.le_of_ble_eq_true rfl) (Nat.zero_le _) (Nat.zero_le _) rfl rfl rfl (b_Mod_within (by omega) h) (fun x1 M1 h => ?_)
      refine r_if_eq (kd221 rfl) rfl (fun c => ?_) (fun c => ?_)
      · have h := h.1 c
        exact (b_Mod_find_131 hd h).less e_sn
      · have h := h.2 c
        refine r_aload_n (kd221 rfl) rfl rfl ?_
        refine r_aload_n (kd221 rfl) rfl rfl ?_
        obtain ⟨g, h⟩ := h
        refine r_get2 (kd221 rfl) (by decide) rfl g rfl ?_
        refine r_iload (kd221 rfl) rfl rfl ?_
        refine r_iload_n (kd221 rfl) rfl rfl ?_
        refine r_iadd (kd221 rfl) rfl ?_
        refine r_bipush (kd221 rfl) (y := 92) (by decide) rfl ?_
        refine r_isub (kd221 rfl) rfl ?_
        obtain ⟨g, h⟩ := h
        refine r_iaload (kd221 rfl) g rfl ?_
        obtain ⟨g, h⟩ := h
        have h := h _ rfl
        refine r_put0 (kd221 rfl) (by decide) rfl g rfl ?_
        refine r_aload_n (kd221 rfl) rfl rfl ?_
        refine r_aload_n (kd221 rfl) rfl rfl ?_
        obtain ⟨g, h⟩ := h
        refine r_get2 (kd221 rfl) (by decide) rfl g rfl ?_
        refine r_bipush (kd221 rfl) (y := 8) (by decide) rfl ?_
        refine r_iload_n (kd221 rfl) rfl rfl ?_
        refine r_imul (kd221 rfl) rfl ?_
        refine r_iload_n (kd221 rfl) rfl rfl ?_
        refine r_iadd (kd221 rfl) rfl ?_
        refine r_bipush (kd221 rfl) (y := 100) (by decide) rfl ?_
        refine r_isub (kd221 rfl) rfl ?_
        obtain ⟨g, h⟩ := h
        refine r_iaload (kd221 rfl) g rfl ?_
        obtain ⟨g, h⟩ := h
        have h := h _ rfl
        refine r_put0 (kd221 rfl) (by decide) rfl g rfl ?_
        exact (b_Mod_find_131 hd h).less e_sn
    · have h := h.2 c
      refine r_aload_n (kd221 rfl) rfl rfl ?_
      refine r_aload_n (kd221 rfl) rfl rfl ?_
      obtain ⟨g, h⟩ := h
      refine r_get2 (kd221 rfl) (by decide) rfl g rfl ?_
      refine r_iload (kd221 rfl) rfl rfl ?_
      refine r_iload_n (kd221 rfl) rfl rfl ?_
      refine r_iadd (kd221 rfl) rfl ?_
      obtain ⟨g, h⟩ := h
      refine r_iaload (kd221 rfl) g rfl ?_
      obtain ⟨g, h⟩ := h
      have h := h _ rfl
      refine r_put0 (kd221 rfl) (by decide) rfl g rfl ?_
      refine r_aload_n (kd221 rfl) rfl rfl ?_
      refine r_aload_n (kd221 rfl) rfl rfl ?_
      obtain ⟨g, h⟩ := h
      refine r_get2 (kd221 rfl) (by decide) rfl g rfl ?_
      refine r_bipush (kd221 rfl) (y := 8) (by decide) rfl ?_
      refine r_iload_n (kd221 rfl) rfl rfl ?_
      refine r_imul (kd221 rfl) rfl ?_
      refine r_iload_n (kd221 rfl) rfl rfl ?_
      refine r_iadd (kd221 rfl) rfl ?_
      obtain ⟨g, h⟩ := h
      refine r_iaload (kd221 rfl) g rfl ?_
      obtain ⟨g, h⟩ := h
      have h := h _ rfl
      refine r_put0 (kd221 rfl) (by decide) rfl g rfl ?_
      refine r_goto (kd221 rfl) ?_
      exact (b_Mod_find_131 hd h).less e_sn
  · have h := h.2 c
    exact r_return (kd221 rfl) R221 h
/-- TierMillModel.local(II)I -/
theorem kd222 {pc : Nat} {q : eI} (h : e_d222.lookup pc = some q) : e_dec 222 pc = some q := h
theorem L222 : (e_m 222).2.2.1 = 3 := rfl
theorem R222 : (e_m 222).2.2.2.1 = (some .int) := rfl
def w_Mod_local_37 (s0 : Int32) (M : eM) (Q : Int32 → eM → Prop) : Prop := Q s0 M
theorem b_Mod_local_37 {d : Nat} {s0 : Int32} {M : eM} {Q : Int32 → eM → Prop} (hd : 3 ≤ d) (h : w_Mod_local_37 s0 M Q ) : e_E 222 d 0 0 37 [] [.int s0] M (e_QI Q) := by
  unfold w_Mod_local_37 at h
  exact r_ireturn (kd222 rfl) R222 h
def w_Mod_local_19 (l0 : Nat) (s0 : Int32) (s1 : Nat) (M : eM) (Q : Int32 → eM → Prop) : Prop := e_ob M s1 12 ∧ ∀ M2 : eM, M2 = e_si M s1 0 s0 → e_ob M2 l0 12 ∧ (¬ (gi M2 l0 0) = 0 → w_Mod_local_37 0 M2 Q) ∧ ((gi M2 l0 0) = 0 → e_ob M2 l0 12 ∧ w_Mod_local_37 (gi M2 l0 91) M2 Q)
theorem b_Mod_local_19 {d : Nat} {l0 : Nat} {s0 : Int32} {s1 : Nat} {M : eM} {Q : Int32 → eM → Prop} (hd : 3 ≤ d) (h : w_Mod_local_19 l0 s0 s1 M Q ) : e_E 222 d 0 0 19 [(0, .ref l0)] [.int s0, .ref s1] M (e_QI Q) := by
  unfold w_Mod_local_19 at h
  obtain ⟨g, h⟩ := h
  have h := h _ rfl
  refine r_put0 (kd222 rfl) (by decide) rfl g rfl ?_
  refine r_aload_n (kd222 rfl) rfl rfl ?_
  obtain ⟨g, h⟩ := h
  refine r_get0 (kd222 rfl) (by decide) rfl g rfl ?_
  refine r_if_ne (kd222 rfl) rfl (fun c => ?_) (fun c => ?_)
  · have h := h.1 c
    refine r_iconst (kd222 rfl) (y := 0) (by decide) rfl ?_
    exact (b_Mod_local_37 hd h).less e_sn
  · have h := h.2 c
    refine r_aload_n (kd222 rfl) rfl rfl ?_
    obtain ⟨g, h⟩ := h
    refine r_get0 (kd222 rfl) (by decide) rfl g rfl ?_
    refine r_goto (kd222 rfl) ?_
    exact (b_Mod_local_37 hd h).less e_sn
def w_Mod_local (l0 : Nat) (l1 : Int32) (l2 : Int32) (M : eM) (Q : Int32 → eM → Prop) : Prop := e_ob M l0 12 ∧ w_Mod_find l0 l1 l2 M (fun (M1 : eM) => e_ob M1 l0 12 ∧ (¬ (gi M1 l0 90) = 0 → w_Mod_local_19 l0 0 l0 M1 Q) ∧ ((gi M1 l0 90) = 0 → w_Mod_local_19 l0 1 l0 M1 Q))
theorem b_Mod_local {d : Nat} {l0 : Nat} {l1 : Int32} {l2 : Int32} {M : eM} {Q : Int32 → eM → Prop} (hd : 3 ≤ d) (h : w_Mod_local l0 l1 l2 M Q) : e_CI 222 d 0 0 [.ref l0, .int l1, .int l2] M Q := by
  unfold w_Mod_local at h
  show e_E 222 d 0 0 0 [(0, .ref l0), (1, .int l1), (2, .int l2)] [] M (e_QI Q)
  refine r_aload_n (kd222 rfl) rfl rfl ?_
  refine r_iload_n (kd222 rfl) rfl rfl ?_
  refine r_iload_n (kd222 rfl) rfl rfl ?_
  obtain ⟨g, h⟩ := h
  refine r_callVV (d' := d - 1) (by omega) (kd222 rfl) (by decide) rfl rfl rfl rfl (Nat.le_of_ble_eq_true rfl) rfl L221 (Nat.le_of_ble_eq_true rfl) (Nat.le_of_ble_eq_true rfl) g (Nat.zero_le _) (Nat.zero_le _) rfl rfl rfl (b_Mod_find (by omega) h) (fun M1 h => ?_)
  refine r_aload_n (kd222 rfl) rfl rfl ?_
  refine r_aload_n (kd222 rfl) rfl rfl ?_
  obtain ⟨g, h⟩ := h
  refine r_get0 (kd222 rfl) (by decide) rfl g rfl ?_
  refine r_if_ne (kd222 rfl) rfl (fun c => ?_) (fun c => ?_)
  · have h := h.1 c
    refine r_iconst (kd222 rfl) (y := 0) (by decide) rfl ?_
    exact (b_Mod_local_19 hd h).less (e_sc (List.mem_of_getElem? (i := 0) rfl) e_sn)
  · have h := h.2 c
    refine r_iconst (kd222 rfl) (y := 1) (by decide) rfl ?_
    refine r_goto (kd222 rfl) ?_
    exact (b_Mod_local_19 hd h).less (e_sc (List.mem_of_getElem? (i := 0) rfl) e_sn)
/-- TierMillModel.part(III)I -/
theorem kd223 {pc : Nat} {q : eI} (h : e_d223.lookup pc = some q) : e_dec 223 pc = some q := h
theorem L223 : (e_m 223).2.2.1 = 5 := rfl
theorem R223 : (e_m 223).2.2.2.1 = (some .int) := rfl
def w_Mod_part_32 (M : eM) (Q : Int32 → eM → Prop) : Prop := Q (0 : Int32) M
theorem b_Mod_part_32 {d : Nat} {M : eM} {Q : Int32 → eM → Prop} (hd : 3 ≤ d) (h : w_Mod_part_32 M Q ) : e_E 223 d 0 0 32 [] [] M (e_QI Q) := by
  unfold w_Mod_part_32 at h
  refine r_iconst (kd223 rfl) (y := 0) (by decide) rfl ?_
  exact r_ireturn (kd223 rfl) R223 h
def w_Mod_part_114 (s0 : Int32) (M : eM) (Q : Int32 → eM → Prop) : Prop := Q s0 M
theorem b_Mod_part_114 {d : Nat} {s0 : Int32} {M : eM} {Q : Int32 → eM → Prop} (hd : 3 ≤ d) (h : w_Mod_part_114 s0 M Q ) : e_E 223 d 0 0 114 [] [.int s0] M (e_QI Q) := by
  unfold w_Mod_part_114 at h
  exact r_ireturn (kd223 rfl) R223 h
def w_Mod_part_64 (l0 : Nat) (l3 : Int32) (l4 : Int32) (M : eM) (Q : Int32 → eM → Prop) : Prop := e_ob M l0 12 ∧ ∀ M7 : eM, M7 = e_si M l0 0 0 → (¬ l3 = 0 → (¬ l3 = 1 → e_ob M7 l0 12 ∧ e_ob M7 l0 12 ∧ e_ai M7 (gr M7 l0 76) l4 ∧ e_ai M7 (gr M7 l0 80) (((gi M7 (gr M7 l0 76) l4.toNatClampNeg) + l3) - 2) ∧ w_Mod_part_114 (gi M7 (gr M7 l0 80) (((gi M7 (gr M7 l0 76) l4.toNatClampNeg) + l3) - 2).toNatClampNeg) M7 Q) ∧ (l3 = 1 → e_ob M7 l0 12 ∧ e_ai M7 (gr M7 l0 77) l4 ∧ w_Mod_part_114 (gi M7 (gr M7 l0 77) l4.toNatClampNeg) M7 Q)) ∧ (l3 = 0 → e_ob M7 l0 12 ∧ e_ai M7 (gr M7 l0 75) l4 ∧ w_Mod_part_114 (gi M7 (gr M7 l0 75) l4.toNatClampNeg) M7 Q)
theorem b_Mod_part_64 {d : Nat} {l0 : Nat} {l3 : Int32} {l4 : Int32} {M : eM} {Q : Int32 → eM → Prop} (hd : 3 ≤ d) (h : w_Mod_part_64 l0 l3 l4 M Q ) : e_E 223 d 0 0 64 [(0, .ref l0), (3, .int l3), (4, .int l4)] [] M (e_QI Q) := by
  unfold w_Mod_part_64 at h
  refine r_aload_n (kd223 rfl) rfl rfl ?_
  refine r_iconst (kd223 rfl) (y := 0) (by decide) rfl ?_
  obtain ⟨g, h⟩ := h
  have h := h _ rfl
  refine r_put0 (kd223 rfl) (by decide) rfl g rfl ?_
  refine r_iload_n (kd223 rfl) rfl rfl ?_
  refine r_if_ne (kd223 rfl) rfl (fun c => ?_) (fun c => ?_)
  · have h := h.1 c
    refine r_iload_n (kd223 rfl) rfl rfl ?_
    refine r_iconst (kd223 rfl) (y := 1) (by decide) rfl ?_
    refine r_icmp_ne (kd223 rfl) rfl (fun c => ?_) (fun c => ?_)
    · have h := h.1 c
      refine r_aload_n (kd223 rfl) rfl rfl ?_
      obtain ⟨g, h⟩ := h
      refine r_get2 (kd223 rfl) (by decide) rfl g rfl ?_
      refine r_aload_n (kd223 rfl) rfl rfl ?_
      obtain ⟨g, h⟩ := h
      refine r_get2 (kd223 rfl) (by decide) rfl g rfl ?_
      refine r_iload (kd223 rfl) rfl rfl ?_
      obtain ⟨g, h⟩ := h
      refine r_iaload (kd223 rfl) g rfl ?_
      refine r_iload_n (kd223 rfl) rfl rfl ?_
      refine r_iadd (kd223 rfl) rfl ?_
      refine r_iconst (kd223 rfl) (y := 2) (by decide) rfl ?_
      refine r_isub (kd223 rfl) rfl ?_
      obtain ⟨g, h⟩ := h
      refine r_iaload (kd223 rfl) g rfl ?_
      exact (b_Mod_part_114 hd h).less e_sn
    · have h := h.2 c
      refine r_aload_n (kd223 rfl) rfl rfl ?_
      obtain ⟨g, h⟩ := h
      refine r_get2 (kd223 rfl) (by decide) rfl g rfl ?_
      refine r_iload (kd223 rfl) rfl rfl ?_
      obtain ⟨g, h⟩ := h
      refine r_iaload (kd223 rfl) g rfl ?_
      refine r_goto (kd223 rfl) ?_
      exact (b_Mod_part_114 hd h).less e_sn
  · have h := h.2 c
    refine r_aload_n (kd223 rfl) rfl rfl ?_
    obtain ⟨g, h⟩ := h
    refine r_get2 (kd223 rfl) (by decide) rfl g rfl ?_
    refine r_iload (kd223 rfl) rfl rfl ?_
    obtain ⟨g, h⟩ := h
    refine r_iaload (kd223 rfl) g rfl ?_
    refine r_goto (kd223 rfl) ?_
    exact (b_Mod_part_114 hd h).less e_sn
def w_Mod_part (l0 : Nat) (l1 : Int32) (l2 : Int32) (l3 : Int32) (M : eM) (Q : Int32 → eM → Prop) : Prop := e_ob M l0 12 ∧ w_Mod_find l0 l1 l2 M (fun (M1 : eM) => e_ob M1 l0 12 ∧ ∀ M2 : eM, M2 = e_si M1 l0 0 1 → e_ob M2 l0 12 ∧ w_Mod_isRef (gi M2 l0 90) M2 (fun (v4 : Int32) (M3 : eM) => (v4 = 0 → w_Mod_part_32 M3 Q) ∧ (¬ v4 = 0 → e_ob M3 l0 12 ∧ ((gi M3 l0 91) = 0 → w_Mod_part_32 M3 Q) ∧ (¬ (gi M3 l0 91) = 0 → (0 ≤ l3 → e_ob M3 l0 12 ∧ e_ob M3 l0 12 ∧ w_Mod_objectOf l0 (gi M3 l0 91) M3 (fun (v6 : Int32) (M5 : eM) => (l3 ≤ 1 → w_Mod_part_64 l0 l3 v6 M5 Q) ∧ (¬ l3 ≤ 1 → e_ob M5 l0 12 ∧ e_ai M5 (gr M5 l0 77) v6 ∧ ((l3 - 2) < (gi M5 (gr M5 l0 77) v6.toNatClampNeg) → w_Mod_part_64 l0 l3 v6 M5 Q) ∧ (¬ (l3 - 2) < (gi M5 (gr M5 l0 77) v6.toNatClampNeg) → Q (0 : Int32) M5)))) ∧ (¬ 0 ≤ l3 → w_Mod_part_32 M3 Q)))))
theorem b_Mod_part {d : Nat} {l0 : Nat} {l1 : Int32} {l2 : Int32} {l3 : Int32} {M : eM} {Q : Int32 → eM → Prop} (hd : 3 ≤ d) (h : w_Mod_part l0 l1 l2 l3 M Q) : e_CI 223 d 0 0 [.ref l0, .int l1, .int l2, .int l3] M Q := by
  unfold w_Mod_part at h
  show e_E 223 d 0 0 0 [(0, .ref l0), (1, .int l1), (2, .int l2), (3, .int l3)] [] M (e_QI Q)
  refine r_aload_n (kd223 rfl) rfl rfl ?_
  refine r_iload_n (kd223 rfl) rfl rfl ?_
  refine r_iload_n (kd223 rfl) rfl rfl ?_
  obtain ⟨g, h⟩ := h
  refine r_callVV (d' := d - 1) (by omega) (kd223 rfl) (by decide) rfl rfl rfl rfl (Nat.le_of_ble_eq_true rfl) rfl L221 (Nat.le_of_ble_eq_true rfl) (Nat.le_of_ble_eq_true rfl) g (Nat.zero_le _) (Nat.zero_le _) rfl rfl rfl (b_Mod_find (by omega) h) (fun M1 h => ?_)
  refine r_aload_n (kd223 rfl) rfl rfl ?_
  refine r_iconst (kd223 rfl) (y := 1) (by decide) rfl ?_
  obtain ⟨g, h⟩ := h
  have h := h _ rfl
  refine r_put0 (kd223 rfl) (by decide) rfl g rfl ?_
  refine r_aload_n (kd223 rfl) rfl rfl ?_
  obtain ⟨g, h⟩ := h
  refine r_get0 (kd223 rfl) (by decide) rfl g rfl ?_
  refine r_callSI (d' := d - 1) (by omega) (kd223 rfl) (by decide) rfl rfl rfl rfl (Nat.le_of_ble_eq_true rfl) rfl L198 (Nat.le_of_ble_eq_true rfl) (Nat.le_of_ble_eq_true rfl) (Nat.zero_le _) (Nat.zero_le _) rfl rfl rfl (b_Mod_isRef (by omega) h) (fun x1 M1 h => ?_)
  refine r_if_eq (kd223 rfl) rfl (fun c => ?_) (fun c => ?_)
  · have h := h.1 c
    exact (b_Mod_part_32 hd h).less e_sn
  · have h := h.2 c
    refine r_aload_n (kd223 rfl) rfl rfl ?_
    obtain ⟨g, h⟩ := h
    refine r_get0 (kd223 rfl) (by decide) rfl g rfl ?_
    refine r_if_eq (kd223 rfl) rfl (fun c => ?_) (fun c => ?_)
    · have h := h.1 c
      exact (b_Mod_part_32 hd h).less e_sn
    · have h := h.2 c
      refine r_iload_n (kd223 rfl) rfl rfl ?_
      refine r_if_ge (kd223 rfl) rfl (fun c => ?_) (fun c => ?_)
      · have h := h.1 c
        refine r_aload_n (kd223 rfl) rfl rfl ?_
        refine r_aload_n (kd223 rfl) rfl rfl ?_
        obtain ⟨g, h⟩ := h
        refine r_get0 (kd223 rfl) (by decide) rfl g rfl ?_
        obtain ⟨g, h⟩ := h
        refine r_callVI (d' := d - 1) (by omega) (kd223 rfl) (by decide) rfl rfl rfl rfl (Nat.le_of_ble_eq_true rfl) rfl L195 (Nat.le_of_ble_eq_true rfl) (Nat.le_of_ble_eq_true rfl) g (Nat.zero_le _) (Nat.zero_le _) rfl rfl rfl (b_Mod_objectOf (by omega) h) (fun x1 M1 h => ?_)
        refine r_istore (kd223 rfl) L223 (by decide) rfl rfl ?_
        refine r_iload_n (kd223 rfl) rfl rfl ?_
        refine r_iconst (kd223 rfl) (y := 1) (by decide) rfl ?_
        refine r_icmp_le (kd223 rfl) rfl (fun c => ?_) (fun c => ?_)
        · have h := h.1 c
          exact (b_Mod_part_64 hd h).less (e_sc (List.mem_of_getElem? (i := 1) rfl) (e_sc (List.mem_of_getElem? (i := 4) rfl) (e_sc (List.mem_of_getElem? (i := 0) rfl) e_sn)))
        · have h := h.2 c
          refine r_iload_n (kd223 rfl) rfl rfl ?_
          refine r_iconst (kd223 rfl) (y := 2) (by decide) rfl ?_
          refine r_isub (kd223 rfl) rfl ?_
          refine r_aload_n (kd223 rfl) rfl rfl ?_
          obtain ⟨g, h⟩ := h
          refine r_get2 (kd223 rfl) (by decide) rfl g rfl ?_
          refine r_iload (kd223 rfl) rfl rfl ?_
          obtain ⟨g, h⟩ := h
          refine r_iaload (kd223 rfl) g rfl ?_
          refine r_icmp_lt (kd223 rfl) rfl (fun c => ?_) (fun c => ?_)
          · have h := h.1 c
            exact (b_Mod_part_64 hd h).less (e_sc (List.mem_of_getElem? (i := 1) rfl) (e_sc (List.mem_of_getElem? (i := 4) rfl) (e_sc (List.mem_of_getElem? (i := 0) rfl) e_sn)))
          · have h := h.2 c
            refine r_iconst (kd223 rfl) (y := 0) (by decide) rfl ?_
            exact r_ireturn (kd223 rfl) R223 h
      · have h := h.2 c
        exact (b_Mod_part_32 hd h).less e_sn
/-- TierMillModel.isMethod(I)Z -/
theorem kd224 {pc : Nat} {q : eI} (h : e_d224.lookup pc = some q) : e_dec 224 pc = some q := h
theorem L224 : (e_m 224).2.2.1 = 2 := rfl
theorem R224 : (e_m 224).2.2.2.1 = (some .boolean) := rfl
def w_Mod_isMethod_26 (s0 : Int32) (M : eM) (Q : Int32 → eM → Prop) : Prop := (s0 = 0 ∨ s0 = 1) ∧ Q s0 M
theorem b_Mod_isMethod_26 {d : Nat} {s0 : Int32} {M : eM} {Q : Int32 → eM → Prop} (hd : 1 ≤ d) (h : w_Mod_isMethod_26 s0 M Q ) : e_E 224 d 0 0 26 [] [.int s0] M (e_QI Q) := by
  unfold w_Mod_isMethod_26 at h
  exact r_zreturn (kd224 rfl) R224 h.1 h.2
def w_Mod_isMethod_25 (M : eM) (Q : Int32 → eM → Prop) : Prop := w_Mod_isMethod_26 0 M Q
theorem b_Mod_isMethod_25 {d : Nat} {M : eM} {Q : Int32 → eM → Prop} (hd : 1 ≤ d) (h : w_Mod_isMethod_25 M Q ) : e_E 224 d 0 0 25 [] [] M (e_QI Q) := by
  unfold w_Mod_isMethod_25 at h
  refine r_iconst (kd224 rfl) (y := 0) (by decide) rfl ?_
  exact (b_Mod_isMethod_26 hd h).less e_sn
def w_Mod_isMethod (l0 : Nat) (l1 : Int32) (M : eM) (Q : Int32 → eM → Prop) : Prop := e_ob M l0 12 ∧ ((gi M l0 7) = 0 → w_Mod_isMethod_25 M Q) ∧ (¬ (gi M l0 7) = 0 → e_ob M l0 12 ∧ w_Mod_within l1 0 ((gi M l0 19) - 1) M (fun (v2 : Int32) (M1 : eM) => (v2 = 0 → w_Mod_isMethod_25 M1 Q) ∧ (¬ v2 = 0 → w_Mod_isMethod_26 1 M1 Q)))
theorem b_Mod_isMethod {d : Nat} {l0 : Nat} {l1 : Int32} {M : eM} {Q : Int32 → eM → Prop} (hd : 1 ≤ d) (h : w_Mod_isMethod l0 l1 M Q) : e_CI 224 d 0 0 [.ref l0, .int l1] M Q := by
  unfold w_Mod_isMethod at h
  show e_E 224 d 0 0 0 [(0, .ref l0), (1, .int l1)] [] M (e_QI Q)
  refine r_aload_n (kd224 rfl) rfl rfl ?_
  obtain ⟨g, h⟩ := h
  refine r_get3 (kd224 rfl) (by decide) rfl g rfl ?_
  refine r_if_eq (kd224 rfl) rfl (fun c => ?_) (fun c => ?_)
  · have h := h.1 c
    exact (b_Mod_isMethod_25 hd h).less e_sn
  · have h := h.2 c
    refine r_iload_n (kd224 rfl) rfl rfl ?_
    refine r_iconst (kd224 rfl) (y := 0) (by decide) rfl ?_
    refine r_aload_n (kd224 rfl) rfl rfl ?_
    obtain ⟨g, h⟩ := h
    refine r_get0 (kd224 rfl) (by decide) rfl g rfl ?_
    refine r_iconst (kd224 rfl) (y := 1) (by decide) rfl ?_
    refine r_isub (kd224 rfl) rfl ?_
    refine r_callSI (d' := d - 1) (by omega) (kd224 rfl) (by decide) rfl rfl rfl rfl (Nat.le_of_ble_eq_true rfl) rfl L145 (Nat.le_of_ble_eq_true rfl) (Nat.le_of_ble_eq_true rfl) (Nat.zero_le _) (Nat.zero_le _) rfl rfl rfl (b_Mod_within (by omega) h) (fun x1 M1 h => ?_)
    refine r_if_eq (kd224 rfl) rfl (fun c => ?_) (fun c => ?_)
    · have h := h.1 c
      exact (b_Mod_isMethod_25 hd h).less e_sn
    · have h := h.2 c
      refine r_iconst (kd224 rfl) (y := 1) (by decide) rfl ?_
      refine r_goto (kd224 rfl) ?_
      exact (b_Mod_isMethod_26 hd h).less e_sn
/-- TierMillModel.method(II)I -/
theorem kd225 {pc : Nat} {q : eI} (h : e_d225.lookup pc = some q) : e_dec 225 pc = some q := h
theorem L225 : (e_m 225).2.2.1 = 3 := rfl
theorem R225 : (e_m 225).2.2.2.1 = (some .int) := rfl
def w_Mod_method_22 (M : eM) (Q : Int32 → eM → Prop) : Prop := Q ((-1) : Int32) M
theorem b_Mod_method_22 {d : Nat} {M : eM} {Q : Int32 → eM → Prop} (hd : 2 ≤ d) (h : w_Mod_method_22 M Q ) : e_E 225 d 0 0 22 [] [] M (e_QI Q) := by
  unfold w_Mod_method_22 at h
  refine r_iconst (kd225 rfl) (y := (-1)) (by decide) rfl ?_
  exact r_ireturn (kd225 rfl) R225 h
def w_Mod_method_78 (s0 : Int32) (M : eM) (Q : Int32 → eM → Prop) : Prop := Q s0 M
theorem b_Mod_method_78 {d : Nat} {s0 : Int32} {M : eM} {Q : Int32 → eM → Prop} (hd : 2 ≤ d) (h : w_Mod_method_78 s0 M Q ) : e_E 225 d 0 0 78 [] [.int s0] M (e_QI Q) := by
  unfold w_Mod_method_78 at h
  exact r_ireturn (kd225 rfl) R225 h
def w_Mod_method (l0 : Nat) (l1 : Int32) (l2 : Int32) (M : eM) (Q : Int32 → eM → Prop) : Prop := e_ob M l0 12 ∧ ∀ M1 : eM, M1 = e_si M l0 0 0 → e_ob M1 l0 12 ∧ w_Mod_isMethod l0 l1 M1 (fun (v3 : Int32) (M2 : eM) => (v3 = 0 → w_Mod_method_22 M2 Q) ∧ (¬ v3 = 0 → w_Mod_within l2 0 2 M2 (fun (v5 : Int32) (M4 : eM) => (¬ v5 = 0 → e_ob M4 l0 12 ∧ (¬ (gi M4 l0 41) = 0 → (¬ l2 = 0 → e_ob M4 l0 12 ∧ e_ai M4 (gr M4 l0 50) l1 ∧ (¬ (gi M4 (gr M4 l0 50) l1.toNatClampNeg) = (-1) → (¬ l2 = 1 → e_ob M4 l0 12 ∧ e_ob M4 l0 12 ∧ e_ai M4 (gr M4 l0 50) l1 ∧ e_ai M4 (gr M4 l0 56) (gi M4 (gr M4 l0 50) l1.toNatClampNeg) ∧ w_Mod_method_78 (gi M4 (gr M4 l0 56) (gi M4 (gr M4 l0 50) l1.toNatClampNeg).toNatClampNeg) M4 Q) ∧ (l2 = 1 → w_Mod_method_78 1 M4 Q)) ∧ ((gi M4 (gr M4 l0 50) l1.toNatClampNeg) = (-1) → w_Mod_method_78 0 M4 Q)) ∧ (l2 = 0 → e_ob M4 l0 12 ∧ e_ai M4 (gr M4 l0 49) l1 ∧ Q (gi M4 (gr M4 l0 49) l1.toNatClampNeg) M4)) ∧ ((gi M4 l0 41) = 0 → Q (0 : Int32) M4)) ∧ (v5 = 0 → w_Mod_method_22 M4 Q))))
theorem b_Mod_method {d : Nat} {l0 : Nat} {l1 : Int32} {l2 : Int32} {M : eM} {Q : Int32 → eM → Prop} (hd : 2 ≤ d) (h : w_Mod_method l0 l1 l2 M Q) : e_CI 225 d 0 0 [.ref l0, .int l1, .int l2] M Q := by
  unfold w_Mod_method at h
  show e_E 225 d 0 0 0 [(0, .ref l0), (1, .int l1), (2, .int l2)] [] M (e_QI Q)
  refine r_aload_n (kd225 rfl) rfl rfl ?_
  refine r_iconst (kd225 rfl) (y := 0) (by decide) rfl ?_
  obtain ⟨g, h⟩ := h
  have h := h _ rfl
  refine r_put0 (kd225 rfl) (by decide) rfl g rfl ?_
  refine r_aload_n (kd225 rfl) rfl rfl ?_
  refine r_iload_n (kd225 rfl) rfl rfl ?_
  obtain ⟨g, h⟩ := h
  refine r_callVI (d' := d - 1) (by omega) (kd225 rfl) (by decide) rfl rfl rfl rfl (Nat.le_of_ble_eq_true rfl) rfl L224 (Nat.le_of_ble_eq_true rfl) (Nat.le_of_ble_eq_true rfl) g (Nat.zero_le _) (Nat.zero_le _) rfl rfl rfl (b_Mod_isMethod (by omega) h) (fun x1 M1 h => ?_)
  refine r_if_eq (kd225 rfl) rfl (fun c => ?_) (fun c => ?_)
  · have h := h.1 c
    exact (b_Mod_method_22 hd h).less e_sn
  · have h := h.2 c
    refine r_iload_n (kd225 rfl) rfl rfl ?_
    refine r_iconst (kd225 rfl) (y := 0) (by decide) rfl ?_
    refine r_iconst (kd225 rfl) (y := 2) (by decide) rfl ?_
    refine r_callSI (d' := d - 1) (by omega) (kd225 rfl) (by decide) rfl rfl rfl rfl (Nat.le_of_ble_eq_true rfl) rfl L145 (Nat.le_of_ble_eq_true rfl) (Nat.le_of_ble_eq_true rfl) (Nat.zero_le _) (Nat.zero_le _) rfl rfl rfl (b_Mod_within (by omega) h) (fun x1 M1 h => ?_)
    refine r_if_ne (kd225 rfl) rfl (fun c => ?_) (fun c => ?_)
    · have h := h.1 c
      refine r_aload_n (kd225 rfl) rfl rfl ?_
      obtain ⟨g, h⟩ := h
      refine r_get0 (kd225 rfl) (by decide) rfl g rfl ?_
      refine r_if_ne (kd225 rfl) rfl (fun c => ?_) (fun c => ?_)
      · have h := h.1 c
        refine r_iload_n (kd225 rfl) rfl rfl ?_
        refine r_if_ne (kd225 rfl) rfl (fun c => ?_) (fun c => ?_)
        · have h := h.1 c
          refine r_aload_n (kd225 rfl) rfl rfl ?_
          obtain ⟨g, h⟩ := h
          refine r_get2 (kd225 rfl) (by decide) rfl g rfl ?_
          refine r_iload_n (kd225 rfl) rfl rfl ?_
          obtain ⟨g, h⟩ := h
          refine r_iaload (kd225 rfl) g rfl ?_
          refine r_iconst (kd225 rfl) (y := (-1)) (by decide) rfl ?_
          refine r_icmp_ne (kd225 rfl) rfl (fun c => ?_) (fun c => ?_)
          · have h := h.1 c
            refine r_iload_n (kd225 rfl) rfl rfl ?_
            refine r_iconst (kd225 rfl) (y := 1) (by decide) rfl ?_
            refine r_icmp_ne (kd225 rfl) rfl (fun c => ?_) (fun c => ?_)
            · have h := h.1 c
              refine r_aload_n (kd225 rfl) rfl rfl ?_
              obtain ⟨g, h⟩ := h
              refine r_get2 (kd225 rfl) (by decide) rfl g rfl ?_
              refine r_aload_n (kd225 rfl) rfl rfl ?_
              obtain ⟨g, h⟩ := h
              refine r_get2 (kd225 rfl) (by decide) rfl g rfl ?_
              refine r_iload_n (kd225 rfl) rfl rfl ?_
              obtain ⟨g, h⟩ := h
              refine r_iaload (kd225 rfl) g rfl ?_
              obtain ⟨g, h⟩ := h
              refine r_iaload (kd225 rfl) g rfl ?_
              exact (b_Mod_method_78 hd h).less e_sn
            · have h := h.2 c
              refine r_iconst (kd225 rfl) (y := 1) (by decide) rfl ?_
              refine r_goto (kd225 rfl) ?_
              exact (b_Mod_method_78 hd h).less e_sn
          · have h := h.2 c
            refine r_iconst (kd225 rfl) (y := 0) (by decide) rfl ?_
            refine r_goto (kd225 rfl) ?_
            exact (b_Mod_method_78 hd h).less e_sn
        · have h := h.2 c
          refine r_aload_n (kd225 rfl) rfl rfl ?_
          obtain ⟨g, h⟩ := h
          refine r_get2 (kd225 rfl) (by decide) rfl g rfl ?_
          refine r_iload_n (kd225 rfl) rfl rfl ?_
          obtain ⟨g, h⟩ := h
          refine r_iaload (kd225 rfl) g rfl ?_
          exact r_ireturn (kd225 rfl) R225 h
      · have h := h.2 c
        refine r_iconst (kd225 rfl) (y := 0) (by decide) rfl ?_
        exact r_ireturn (kd225 rfl) R225 h
    · have h := h.2 c
      exact (b_Mod_method_22 hd h).less e_sn
/-- TierMillModel.inlined(III)I -/
theorem kd226 {pc : Nat} {q : eI} (h : e_d226.lookup pc = some q) : e_dec 226 pc = some q := h
theorem L226 : (e_m 226).2.2.1 = 4 := rfl
theorem R226 : (e_m 226).2.2.2.1 = (some .int) := rfl
def w_Mod_inlined_60 (M : eM) (Q : Int32 → eM → Prop) : Prop := Q ((-1) : Int32) M
theorem b_Mod_inlined_60 {d : Nat} {M : eM} {Q : Int32 → eM → Prop} (hd : 2 ≤ d) (h : w_Mod_inlined_60 M Q ) : e_E 226 d 0 0 60 [] [] M (e_QI Q) := by
  unfold w_Mod_inlined_60 at h
  refine r_iconst (kd226 rfl) (y := (-1)) (by decide) rfl ?_
  exact r_ireturn (kd226 rfl) R226 h
def w_Mod_inlined (l0 : Nat) (l1 : Int32) (l2 : Int32) (l3 : Int32) (M : eM) (Q : Int32 → eM → Prop) : Prop := e_ob M l0 12 ∧ ∀ M1 : eM, M1 = e_si M l0 0 0 → e_ob M1 l0 12 ∧ w_Mod_isMethod l0 l1 M1 (fun (v3 : Int32) (M2 : eM) => (v3 = 0 → w_Mod_inlined_60 M2 Q) ∧ (¬ v3 = 0 → e_ob M2 l0 12 ∧ ((gi M2 l0 41) = 0 → w_Mod_inlined_60 M2 Q) ∧ (¬ (gi M2 l0 41) = 0 → e_ob M2 l0 12 ∧ e_ai M2 (gr M2 l0 50) l1 ∧ ((gi M2 (gr M2 l0 50) l1.toNatClampNeg) = (-1) → w_Mod_inlined_60 M2 Q) ∧ (¬ (gi M2 (gr M2 l0 50) l1.toNatClampNeg) = (-1) → e_ob M2 l0 12 ∧ e_ob M2 l0 12 ∧ e_ai M2 (gr M2 l0 50) l1 ∧ e_ai M2 (gr M2 l0 56) (gi M2 (gr M2 l0 50) l1.toNatClampNeg) ∧ w_Mod_within l2 0 ((gi M2 (gr M2 l0 56) (gi M2 (gr M2 l0 50) l1.toNatClampNeg).toNatClampNeg) - 1) M2 (fun (v5 : Int32) (M4 : eM) => (v5 = 0 → w_Mod_inlined_60 M4 Q) ∧ (¬ v5 = 0 → w_Mod_within l3 0 4 M4 (fun (v7 : Int32) (M6 : eM) => (¬ v7 = 0 → e_ob M6 l0 12 ∧ e_ob M6 l0 12 ∧ e_ob M6 l0 12 ∧ e_ai M6 (gr M6 l0 50) l1 ∧ e_ai M6 (gr M6 l0 55) (gi M6 (gr M6 l0 50) l1.toNatClampNeg) ∧ e_ai M6 (gr M6 l0 59) ((6 * ((gi M6 (gr M6 l0 55) (gi M6 (gr M6 l0 50) l1.toNatClampNeg).toNatClampNeg) + l2)) + l3) ∧ Q (gi M6 (gr M6 l0 59) ((6 * ((gi M6 (gr M6 l0 55) (gi M6 (gr M6 l0 50) l1.toNatClampNeg).toNatClampNeg) + l2)) + l3).toNatClampNeg) M6) ∧ (v7 = 0 → w_Mod_inlined_60 M6 Q))))))))
theorem b_Mod_inlined {d : Nat} {l0 : Nat} {l1 : Int32} {l2 : Int32} {l3 : Int32} {M : eM} {Q : Int32 → eM → Prop} (hd : 2 ≤ d) (h : w_Mod_inlined l0 l1 l2 l3 M Q) : e_CI 226 d 0 0 [.ref l0, .int l1, .int l2, .int l3] M Q := by
  unfold w_Mod_inlined at h
  show e_E 226 d 0 0 0 [(0, .ref l0), (1, .int l1), (2, .int l2), (3, .int l3)] [] M (e_QI Q)
  refine r_aload_n (kd226 rfl) rfl rfl ?_
  refine r_iconst (kd226 rfl) (y := 0) (by decide) rfl ?_
  obtain ⟨g, h⟩ := h
  have h := h _ rfl
  refine r_put0 (kd226 rfl) (by decide) rfl g rfl ?_
  refine r_aload_n (kd226 rfl) rfl rfl ?_
  refine r_iload_n (kd226 rfl) rfl rfl ?_
  obtain ⟨g, h⟩ := h
  refine r_callVI (d' := d - 1) (by omega) (kd226 rfl) (by decide) rfl rfl rfl rfl (Nat.le_of_ble_eq_true rfl) rfl L224 (Nat.le_of_ble_eq_true rfl) (Nat.le_of_ble_eq_true rfl) g (Nat.zero_le _) (Nat.zero_le _) rfl rfl rfl (b_Mod_isMethod (by omega) h) (fun x1 M1 h => ?_)
  refine r_if_eq (kd226 rfl) rfl (fun c => ?_) (fun c => ?_)
  · have h := h.1 c
    exact (b_Mod_inlined_60 hd h).less e_sn
  · have h := h.2 c
    refine r_aload_n (kd226 rfl) rfl rfl ?_
    obtain ⟨g, h⟩ := h
    refine r_get0 (kd226 rfl) (by decide) rfl g rfl ?_
    refine r_if_eq (kd226 rfl) rfl (fun c => ?_) (fun c => ?_)
    · have h := h.1 c
      exact (b_Mod_inlined_60 hd h).less e_sn
    · have h := h.2 c
      refine r_aload_n (kd226 rfl) rfl rfl ?_
      obtain ⟨g, h⟩ := h
      refine r_get2 (kd226 rfl) (by decide) rfl g rfl ?_
      refine r_iload_n (kd226 rfl) rfl rfl ?_
      obtain ⟨g, h⟩ := h
      refine r_iaload (kd226 rfl) g rfl ?_
      refine r_iconst (kd226 rfl) (y := (-1)) (by decide) rfl ?_
      refine r_icmp_eq (kd226 rfl) rfl (fun c => ?_) (fun c => ?_)
      · have h := h.1 c
        exact (b_Mod_inlined_60 hd h).less e_sn
      · have h := h.2 c
        refine r_iload_n (kd226 rfl) rfl rfl ?_
        refine r_iconst (kd226 rfl) (y := 0) (by decide) rfl ?_
        refine r_aload_n (kd226 rfl) rfl rfl ?_
        obtain ⟨g, h⟩ := h
        refine r_get2 (kd226 rfl) (by decide) rfl g rfl ?_
        refine r_aload_n (kd226 rfl) rfl rfl ?_
        obtain ⟨g, h⟩ := h
        refine r_get2 (kd226 rfl) (by decide) rfl g rfl ?_
        refine r_iload_n (kd226 rfl) rfl rfl ?_
        obtain ⟨g, h⟩ := h
        refine r_iaload (kd226 rfl) g rfl ?_
        obtain ⟨g, h⟩ := h
        refine r_iaload (kd226 rfl) g rfl ?_
        refine r_iconst (kd226 rfl) (y := 1) (by decide) rfl ?_
        refine r_isub (kd226 rfl) rfl ?_
        refine r_callSI (d' := d - 1) (by omega) (kd226 rfl) (by decide) rfl rfl rfl rfl (Nat.le_of_ble_eq_true rfl) rfl L145 (Nat.le_of_ble_eq_true rfl) (Nat.le_of_ble_eq_true rfl) (Nat.zero_le _) (Nat.zero_le _) rfl rfl rfl (b_Mod_within (by omega) h) (fun x1 M1 h => ?_)
        refine r_if_eq (kd226 rfl) rfl (fun c => ?_) (fun c => ?_)
        · have h := h.1 c
          exact (b_Mod_inlined_60 hd h).less e_sn
        · have h := h.2 c
          refine r_iload_n (kd226 rfl) rfl rfl ?_
          refine r_iconst (kd226 rfl) (y := 0) (by decide) rfl ?_
          refine r_iconst (kd226 rfl) (y := 4) (by decide) rfl ?_
          refine r_callSI (d' := d - 1) (by omega) (kd226 rfl) (by decide) rfl rfl rfl rfl (Nat.le_of_ble_eq_true rfl) rfl L145 (Nat.le_of_ble_eq_true rfl) (Nat.le_of_ble_eq_true rfl) (Nat.zero_le _) (Nat.zero_le _) rfl rfl rfl (b_Mod_within (by omega) h) (fun x1 M1 h => ?_)
          refine r_if_ne (kd226 rfl) rfl (fun c => ?_) (fun c => ?_)
          · have h := h.1 c
            refine r_aload_n (kd226 rfl) rfl rfl ?_
            obtain ⟨g, h⟩ := h
            refine r_get2 (kd226 rfl) (by decide) rfl g rfl ?_
            refine r_bipush (kd226 rfl) (y := 6) (by decide) rfl ?_
            refine r_aload_n (kd226 rfl) rfl rfl ?_
            obtain ⟨g, h⟩ := h
            refine r_get2 (kd226 rfl) (by decide) rfl g rfl ?_
            refine r_aload_n (kd226 rfl) rfl rfl ?_
            obtain ⟨g, h⟩ := h
            refine r_get2 (kd226 rfl) (by decide) rfl g rfl ?_
            refine r_iload_n (kd226 rfl) rfl rfl ?_
            obtain ⟨g, h⟩ := h
            refine r_iaload (kd226 rfl) g rfl ?_
            obtain ⟨g, h⟩ := h
            refine r_iaload (kd226 rfl) g rfl ?_
            refine r_iload_n (kd226 rfl) rfl rfl ?_
            refine r_iadd (kd226 rfl) rfl ?_
            refine r_imul (kd226 rfl) rfl ?_
            refine r_iload_n (kd226 rfl) rfl rfl ?_
            refine r_iadd (kd226 rfl) rfl ?_
            obtain ⟨g, h⟩ := h
            refine r_iaload (kd226 rfl) g rfl ?_
            exact r_ireturn (kd226 rfl) R226 h
          · have h := h.2 c
            exact (b_Mod_inlined_60 hd h).less e_sn
/-- TierMillModel.profile(III)I -/
theorem kd227 {pc : Nat} {q : eI} (h : e_d227.lookup pc = some q) : e_dec 227 pc = some q := h
theorem L227 : (e_m 227).2.2.1 = 6 := rfl
theorem R227 : (e_m 227).2.2.2.1 = (some .int) := rfl
def w_Mod_profile_50 (M : eM) (Q : Int32 → eM → Prop) : Prop := Q ((-1) : Int32) M
theorem b_Mod_profile_50 {d : Nat} {M : eM} {Q : Int32 → eM → Prop} (hd : 2 ≤ d) (h : w_Mod_profile_50 M Q ) : e_E 227 d 0 0 50 [] [] M (e_QI Q) := by
  unfold w_Mod_profile_50 at h
  refine r_iconst (kd227 rfl) (y := (-1)) (by decide) rfl ?_
  exact r_ireturn (kd227 rfl) R227 h
def w_Mod_profile_115 (s0 : Int32) (M : eM) (Q : Int32 → eM → Prop) : Prop := Q s0 M
theorem b_Mod_profile_115 {d : Nat} {s0 : Int32} {M : eM} {Q : Int32 → eM → Prop} (hd : 2 ≤ d) (h : w_Mod_profile_115 s0 M Q ) : e_E 227 d 0 0 115 [] [.int s0] M (e_QI Q) := by
  unfold w_Mod_profile_115 at h
  exact r_ireturn (kd227 rfl) R227 h
def w_Mod_profile_97 (l0 : Nat) (l1 : Int32) (l2 : Int32) (l3 : Int32) (s0 : Int32) (M : eM) (Q : Int32 → eM → Prop) : Prop := (s0 = 0 → w_Mod_profile_115 (-1) M Q) ∧ (¬ s0 = 0 → e_ob M l0 12 ∧ w_Mod_profileOf l0 l1 l2 l3 M (fun (v9 : Int32) (M8 : eM) => w_Mod_profile_115 v9 M8 Q))
theorem b_Mod_profile_97 {d : Nat} {l0 : Nat} {l1 : Int32} {l2 : Int32} {l3 : Int32} {s0 : Int32} {M : eM} {Q : Int32 → eM → Prop} (hd : 2 ≤ d) (h : w_Mod_profile_97 l0 l1 l2 l3 s0 M Q ) : e_E 227 d 0 0 97 [(0, .ref l0), (1, .int l1), (2, .int l2), (3, .int l3)] [.int s0] M (e_QI Q) := by
  unfold w_Mod_profile_97 at h
  refine r_istore (kd227 rfl) L227 (by decide) rfl rfl ?_
  refine r_iload (kd227 rfl) rfl rfl ?_
  refine r_if_eq (kd227 rfl) rfl (fun c => ?_) (fun c => ?_)
  · have h := h.1 c
    refine r_iconst (kd227 rfl) (y := (-1)) (by decide) rfl ?_
    exact (b_Mod_profile_115 hd h).less e_sn
  · have h := h.2 c
    refine r_aload_n (kd227 rfl) rfl rfl ?_
    refine r_iload_n (kd227 rfl) rfl rfl ?_
    refine r_iload_n (kd227 rfl) rfl rfl ?_
    refine r_iload_n (kd227 rfl) rfl rfl ?_
    obtain ⟨g, h⟩ := h
    refine r_callVI (d' := d - 1) (by omega) (kd227 rfl) (by decide) rfl rfl rfl rfl (Nat.le_of_ble_eq_true rfl) rfl L189 (Nat.le_of_ble_eq_true rfl) (Nat.le_of_ble_eq_true rfl) g (Nat.zero_le _) (Nat.zero_le _) rfl rfl rfl (b_Mod_profileOf (by omega) h) (fun x1 M1 h => ?_)
    refine r_goto (kd227 rfl) ?_
    exact (b_Mod_profile_115 hd h).less e_sn
def w_Mod_profile_92 (l0 : Nat) (l1 : Int32) (l2 : Int32) (l3 : Int32) (M : eM) (Q : Int32 → eM → Prop) : Prop := w_Mod_profile_97 l0 l1 l2 l3 1 M Q
theorem b_Mod_profile_92 {d : Nat} {l0 : Nat} {l1 : Int32} {l2 : Int32} {l3 : Int32} {M : eM} {Q : Int32 → eM → Prop} (hd : 2 ≤ d) (h : w_Mod_profile_92 l0 l1 l2 l3 M Q ) : e_E 227 d 0 0 92 [(0, .ref l0), (1, .int l1), (2, .int l2), (3, .int l3)] [] M (e_QI Q) := by
  unfold w_Mod_profile_92 at h
  refine r_iconst (kd227 rfl) (y := 1) (by decide) rfl ?_
  refine r_goto (kd227 rfl) ?_
  exact (b_Mod_profile_97 hd h).less (e_sc (List.mem_of_getElem? (i := 0) rfl) (e_sc (List.mem_of_getElem? (i := 1) rfl) (e_sc (List.mem_of_getElem? (i := 2) rfl) (e_sc (List.mem_of_getElem? (i := 3) rfl) e_sn))))
def w_Mod_profile_96 (l0 : Nat) (l1 : Int32) (l2 : Int32) (l3 : Int32) (M : eM) (Q : Int32 → eM → Prop) : Prop := w_Mod_profile_97 l0 l1 l2 l3 0 M Q
theorem b_Mod_profile_96 {d : Nat} {l0 : Nat} {l1 : Int32} {l2 : Int32} {l3 : Int32} {M : eM} {Q : Int32 → eM → Prop} (hd : 2 ≤ d) (h : w_Mod_profile_96 l0 l1 l2 l3 M Q ) : e_E 227 d 0 0 96 [(0, .ref l0), (1, .int l1), (2, .int l2), (3, .int l3)] [] M (e_QI Q) := by
  unfold w_Mod_profile_96 at h
  refine r_iconst (kd227 rfl) (y := 0) (by decide) rfl ?_
  exact (b_Mod_profile_97 hd h).less (e_sc (List.mem_of_getElem? (i := 0) rfl) (e_sc (List.mem_of_getElem? (i := 1) rfl) (e_sc (List.mem_of_getElem? (i := 2) rfl) (e_sc (List.mem_of_getElem? (i := 3) rfl) e_sn))))
def w_Mod_profile_71 (l0 : Nat) (l1 : Int32) (l2 : Int32) (l3 : Int32) (l4 : Int32) (M : eM) (Q : Int32 → eM → Prop) : Prop := (¬ l4 = 48 → w_Mod_profile_96 l0 l1 l2 l3 M Q) ∧ (l4 = 48 → e_ob M l0 12 ∧ w_Mod_within l3 0 ((gi M l0 11) - 1) M (fun (v11 : Int32) (M10 : eM) => (v11 = 0 → w_Mod_profile_96 l0 l1 l2 l3 M10 Q) ∧ (¬ v11 = 0 → w_Mod_profile_92 l0 l1 l2 l3 M10 Q)))
theorem b_Mod_profile_71 {d : Nat} {l0 : Nat} {l1 : Int32} {l2 : Int32} {l3 : Int32} {l4 : Int32} {M : eM} {Q : Int32 → eM → Prop} (hd : 2 ≤ d) (h : w_Mod_profile_71 l0 l1 l2 l3 l4 M Q ) : e_E 227 d 0 0 71 [(0, .ref l0), (1, .int l1), (2, .int l2), (3, .int l3), (4, .int l4)] [] M (e_QI Q) := by
  unfold w_Mod_profile_71 at h
  refine r_iload (kd227 rfl) rfl rfl ?_
  refine r_bipush (kd227 rfl) (y := 48) (by decide) rfl ?_
  refine r_icmp_ne (kd227 rfl) rfl (fun c => ?_) (fun c => ?_)
  · have h := h.1 c
    exact (b_Mod_profile_96 hd h).less (e_sc (List.mem_of_getElem? (i := 0) rfl) (e_sc (List.mem_of_getElem? (i := 1) rfl) (e_sc (List.mem_of_getElem? (i := 2) rfl) (e_sc (List.mem_of_getElem? (i := 3) rfl) e_sn))))
  · have h := h.2 c
    refine r_iload_n (kd227 rfl) rfl rfl ?_
    refine r_iconst (kd227 rfl) (y := 0) (by decide) rfl ?_
    refine r_aload_n (kd227 rfl) rfl rfl ?_
    obtain ⟨g, h⟩ := h
    refine r_get0 (kd227 rfl) (by decide) rfl g rfl ?_
    refine r_iconst (kd227 rfl) (y := 1) (by decide) rfl ?_
    refine r_isub (kd227 rfl) rfl ?_
    refine r_callSI (d' := d - 1) (by omega) (kd227 rfl) (by decide) rfl rfl rfl rfl (Nat.le_of_ble_eq_true rfl) rfl L145 (Nat.le_of_ble_eq_true rfl) (Nat.le_of_ble_eq_true rfl) (Nat.zero_le _) (Nat.zero_le _) rfl rfl rfl (b_Mod_within (by omega) h) (fun x1 M1 h => ?_)
    refine r_if_eq (kd227 rfl) rfl (fun c => ?_) (fun c => ?_)
    · have h := h.1 c
      exact (b_Mod_profile_96 hd h).less (e_sc (List.mem_of_getElem? (i := 0) rfl) (e_sc (List.mem_of_getElem? (i := 1) rfl) (e_sc (List.mem_of_getElem? (i := 2) rfl) (e_sc (List.mem_of_getElem? (i := 3) rfl) e_sn))))
    · have h := h.2 c
      exact (b_Mod_profile_92 hd h).less (e_sc (List.mem_of_getElem? (i := 0) rfl) (e_sc (List.mem_of_getElem? (i := 1) rfl) (e_sc (List.mem_of_getElem? (i := 2) rfl) (e_sc (List.mem_of_getElem? (i := 3) rfl) e_sn))))
def w_Mod_profile (l0 : Nat) (l1 : Int32) (l2 : Int32) (l3 : Int32) (M : eM) (Q : Int32 → eM → Prop) : Prop := e_ob M l0 12 ∧ ∀ M1 : eM, M1 = e_si M l0 0 0 → e_ob M1 l0 12 ∧ w_Mod_isMethod l0 l1 M1 (fun (v3 : Int32) (M2 : eM) => (v3 = 0 → w_Mod_profile_50 M2 Q) ∧ (¬ v3 = 0 → e_ob M2 l0 12 ∧ ((gi M2 l0 41) = 0 → w_Mod_profile_50 M2 Q) ∧ (¬ (gi M2 l0 41) = 0 → e_ob M2 l0 12 ∧ e_ai M2 (gr M2 l0 25) l1 ∧ w_Mod_within l2 0 ((gi M2 (gr M2 l0 25) l1.toNatClampNeg) - 1) M2 (fun (v5 : Int32) (M4 : eM) => (v5 = 0 → w_Mod_profile_50 M4 Q) ∧ (¬ v5 = 0 → e_ob M4 l0 12 ∧ e_ar M4 (gr M4 l0 27) 22 ((120 * l1) + l2) ∧ (¬ (gi M4 (gr M4 l0 27) ((120 * l1) + l2).toNatClampNeg) = 0 → e_ob M4 l0 12 ∧ w_Mod_byteAt l0 l1 l2 M4 (fun (v7 : Int32) (M6 : eM) => (¬ v7 = 47 → w_Mod_profile_71 l0 l1 l2 l3 v7 M6 Q) ∧ (v7 = 47 → (l3 = 0 → w_Mod_profile_92 l0 l1 l2 l3 M6 Q) ∧ (¬ l3 = 0 → w_Mod_profile_71 l0 l1 l2 l3 v7 M6 Q)))) ∧ ((gi M4 (gr M4 l0 27) ((120 * l1) + l2).toNatClampNeg) = 0 → w_Mod_profile_50 M4 Q))))))
theorem b_Mod_profile {d : Nat} {l0 : Nat} {l1 : Int32} {l2 : Int32} {l3 : Int32} {M : eM} {Q : Int32 → eM → Prop} (hd : 2 ≤ d) (h : w_Mod_profile l0 l1 l2 l3 M Q) : e_CI 227 d 0 0 [.ref l0, .int l1, .int l2, .int l3] M Q := by
  unfold w_Mod_profile at h
  show e_E 227 d 0 0 0 [(0, .ref l0), (1, .int l1), (2, .int l2), (3, .int l3)] [] M (e_QI Q)
  refine r_aload_n (kd227 rfl) rfl rfl ?_
  refine r_iconst (kd227 rfl) (y := 0) (by decide) rfl ?_
  obtain ⟨g, h⟩ := h
  have h := h _ rfl
  refine r_put0 (kd227 rfl) (by decide) rfl g rfl ?_
  refine r_aload_n (kd227 rfl) rfl rfl ?_
  refine r_iload_n (kd227 rfl) rfl rfl ?_
  obtain ⟨g, h⟩ := h
  refine r_callVI (d' := d - 1) (by omega) (kd227 rfl) (by decide) rfl rfl rfl rfl (Nat.le_of_ble_eq_true rfl) rfl L224 (Nat.le_of_ble_eq_true rfl) (Nat.le_of_ble_eq_true rfl) g (Nat.zero_le _) (Nat.zero_le _) rfl rfl rfl (b_Mod_isMethod (by omega) h) (fun x1 M1 h => ?_)
  refine r_if_eq (kd227 rfl) rfl (fun c => ?_) (fun c => ?_)
  · have h := h.1 c
    exact (b_Mod_profile_50 hd h).less e_sn
  · have h := h.2 c
    refine r_aload_n (kd227 rfl) rfl rfl ?_
    obtain ⟨g, h⟩ := h
    refine r_get0 (kd227 rfl) (by decide) rfl g rfl ?_
    refine r_if_eq (kd227 rfl) rfl (fun c => ?_) (fun c => ?_)
    · have h := h.1 c
      exact (b_Mod_profile_50 hd h).less e_sn
    · have h := h.2 c
      refine r_iload_n (kd227 rfl) rfl rfl ?_
      refine r_iconst (kd227 rfl) (y := 0) (by decide) rfl ?_
      refine r_aload_n (kd227 rfl) rfl rfl ?_
      obtain ⟨g, h⟩ := h
      refine r_get2 (kd227 rfl) (by decide) rfl g rfl ?_
      refine r_iload_n (kd227 rfl) rfl rfl ?_
      obtain ⟨g, h⟩ := h
      refine r_iaload (kd227 rfl) g rfl ?_
      refine r_iconst (kd227 rfl) (y := 1) (by decide) rfl ?_
      refine r_isub (kd227 rfl) rfl ?_
      refine r_callSI (d' := d - 1) (by omega) (kd227 rfl) (by decide) rfl rfl rfl rfl (Nat.le_of_ble_eq_true rfl) rfl L145 (Nat.le_of_ble_eq_true rfl) (Nat.le_of_ble_eq_true rfl) (Nat.zero_le _) (Nat.zero_le _) rfl rfl rfl (b_Mod_within (by omega) h) (fun x1 M1 h => ?_)
      refine r_if_eq (kd227 rfl) rfl (fun c => ?_) (fun c => ?_)
      · have h := h.1 c
        exact (b_Mod_profile_50 hd h).less e_sn
      · have h := h.2 c
        refine r_aload_n (kd227 rfl) rfl rfl ?_
        obtain ⟨g, h⟩ := h
        refine r_get2 (kd227 rfl) (by decide) rfl g rfl ?_
        refine r_bipush (kd227 rfl) (y := 120) (by decide) rfl ?_
        refine r_iload_n (kd227 rfl) rfl rfl ?_
        refine r_imul (kd227 rfl) rfl ?_
        refine r_iload_n (kd227 rfl) rfl rfl ?_
        refine r_iadd (kd227 rfl) rfl ?_
        obtain ⟨g, h⟩ := h
        refine r_baload (kd227 rfl) g rfl ?_
        refine r_if_ne (kd227 rfl) rfl (fun c => ?_) (fun c => ?_)
        · have h := h.1 c
          refine r_aload_n (kd227 rfl) rfl rfl ?_
          refine r_iload_n (kd227 rfl) rfl rfl ?_
          refine r_iload_n (kd227 rfl) rfl rfl ?_
          obtain ⟨g, h⟩ := h
          refine r_callVI (d' := d - 1) (by omega) (kd227 rfl) (by decide) rfl rfl rfl rfl (Nat.le_of_ble_eq_true rfl) rfl L158 (Nat.le_of_ble_eq_true rfl) (Nat.le_of_ble_eq_true rfl) g (Nat.zero_le _) (Nat.zero_le _) rfl rfl rfl (b_Mod_byteAt (by omega) h) (fun x1 M1 h => ?_)
          refine r_istore (kd227 rfl) L227 (by decide) rfl rfl ?_
          refine r_iload (kd227 rfl) rfl rfl ?_
          refine r_bipush (kd227 rfl) (y := 47) (by decide) rfl ?_
          refine r_icmp_ne (kd227 rfl) rfl (fun c => ?_) (fun c => ?_)
          · have h := h.1 c
            exact (b_Mod_profile_71 hd h).less (e_sc (List.mem_of_getElem? (i := 1) rfl) (e_sc (List.mem_of_getElem? (i := 2) rfl) (e_sc (List.mem_of_getElem? (i := 3) rfl) (e_sc (List.mem_of_getElem? (i := 4) rfl) (e_sc (List.mem_of_getElem? (i := 0) rfl) e_sn)))))
          · have h := h.2 c
            refine r_iload_n (kd227 rfl) rfl rfl ?_
            refine r_if_eq (kd227 rfl) rfl (fun c => ?_) (fun c => ?_)
            · have h := h.1 c
              exact (b_Mod_profile_92 hd h).less (e_sc (List.mem_of_getElem? (i := 1) rfl) (e_sc (List.mem_of_getElem? (i := 2) rfl) (e_sc (List.mem_of_getElem? (i := 3) rfl) (e_sc (List.mem_of_getElem? (i := 4) rfl) e_sn))))
            · have h := h.2 c
              exact (b_Mod_profile_71 hd h).less (e_sc (List.mem_of_getElem? (i := 1) rfl) (e_sc (List.mem_of_getElem? (i := 2) rfl) (e_sc (List.mem_of_getElem? (i := 3) rfl) (e_sc (List.mem_of_getElem? (i := 4) rfl) (e_sc (List.mem_of_getElem? (i := 0) rfl) e_sn)))))
        · have h := h.2 c
          exact (b_Mod_profile_50 hd h).less e_sn
/-- TierMillModel.log(II)I -/
theorem kd228 {pc : Nat} {q : eI} (h : e_d228.lookup pc = some q) : e_dec 228 pc = some q := h
theorem L228 : (e_m 228).2.2.1 = 3 := rfl
theorem R228 : (e_m 228).2.2.2.1 = (some .int) := rfl
def w_Mod_log_49 (s0 : Int32) (M : eM) (Q : Int32 → eM → Prop) : Prop := Q s0 M
theorem b_Mod_log_49 {d : Nat} {s0 : Int32} {M : eM} {Q : Int32 → eM → Prop} (hd : 1 ≤ d) (h : w_Mod_log_49 s0 M Q ) : e_E 228 d 0 0 49 [] [.int s0] M (e_QI Q) := by
  unfold w_Mod_log_49 at h
  exact r_ireturn (kd228 rfl) R228 h
def w_Mod_log_35 (M : eM) (Q : Int32 → eM → Prop) : Prop := w_Mod_log_49 (-1) M Q
theorem b_Mod_log_35 {d : Nat} {M : eM} {Q : Int32 → eM → Prop} (hd : 1 ≤ d) (h : w_Mod_log_35 M Q ) : e_E 228 d 0 0 35 [] [] M (e_QI Q) := by
  unfold w_Mod_log_35 at h
  refine r_iconst (kd228 rfl) (y := (-1)) (by decide) rfl ?_
  refine r_goto (kd228 rfl) ?_
  exact (b_Mod_log_49 hd h).less e_sn
def w_Mod_log (l0 : Nat) (l1 : Int32) (l2 : Int32) (M : eM) (Q : Int32 → eM → Prop) : Prop := e_ob M l0 12 ∧ ∀ M1 : eM, M1 = e_si M l0 0 0 → e_ob M1 l0 12 ∧ ((gi M1 l0 41) = 0 → w_Mod_log_35 M1 Q) ∧ (¬ (gi M1 l0 41) = 0 → e_ob M1 l0 12 ∧ w_Mod_within l1 0 ((gi M1 l0 52) - 1) M1 (fun (v3 : Int32) (M2 : eM) => (v3 = 0 → w_Mod_log_35 M2 Q) ∧ (¬ v3 = 0 → w_Mod_within l2 0 4 M2 (fun (v5 : Int32) (M4 : eM) => (¬ v5 = 0 → e_ob M4 l0 12 ∧ e_ai M4 (gr M4 l0 53) ((5 * l1) + l2) ∧ w_Mod_log_49 (gi M4 (gr M4 l0 53) ((5 * l1) + l2).toNatClampNeg) M4 Q) ∧ (v5 = 0 → w_Mod_log_35 M4 Q)))))
theorem b_Mod_log {d : Nat} {l0 : Nat} {l1 : Int32} {l2 : Int32} {M : eM} {Q : Int32 → eM → Prop} (hd : 1 ≤ d) (h : w_Mod_log l0 l1 l2 M Q) : e_CI 228 d 0 0 [.ref l0, .int l1, .int l2] M Q := by
  unfold w_Mod_log at h
  show e_E 228 d 0 0 0 [(0, .ref l0), (1, .int l1), (2, .int l2)] [] M (e_QI Q)
  refine r_aload_n (kd228 rfl) rfl rfl ?_
  refine r_iconst (kd228 rfl) (y := 0) (by decide) rfl ?_
  obtain ⟨g, h⟩ := h
  have h := h _ rfl
  refine r_put0 (kd228 rfl) (by decide) rfl g rfl ?_
  refine r_aload_n (kd228 rfl) rfl rfl ?_
  obtain ⟨g, h⟩ := h
  refine r_get0 (kd228 rfl) (by decide) rfl g rfl ?_
  refine r_if_eq (kd228 rfl) rfl (fun c => ?_) (fun c => ?_)
  · have h := h.1 c
    exact (b_Mod_log_35 hd h).less e_sn
  · have h := h.2 c
    refine r_iload_n (kd228 rfl) rfl rfl ?_
    refine r_iconst (kd228 rfl) (y := 0) (by decide) rfl ?_
    refine r_aload_n (kd228 rfl) rfl rfl ?_
    obtain ⟨g, h⟩ := h
    refine r_get0 (kd228 rfl) (by decide) rfl g rfl ?_
    refine r_iconst (kd228 rfl) (y := 1) (by decide) rfl ?_
    refine r_isub (kd228 rfl) rfl ?_
    refine r_callSI (d' := d - 1) (by omega) (kd228 rfl) (by decide) rfl rfl rfl rfl (Nat.le_of_ble_eq_true rfl) rfl L145 (Nat.le_of_ble_eq_true rfl) (Nat.le_of_ble_eq_true rfl) (Nat.zero_le _) (Nat.zero_le _) rfl rfl rfl (b_Mod_within (by omega) h) (fun x1 M1 h => ?_)
    refine r_if_eq (kd228 rfl) rfl (fun c => ?_) (fun c => ?_)
    · have h := h.1 c
      exact (b_Mod_log_35 hd h).less e_sn
    · have h := h.2 c
      refine r_iload_n (kd228 rfl) rfl rfl ?_
      refine r_iconst (kd228 rfl) (y := 0) (by decide) rfl ?_
      refine r_iconst (kd228 rfl) (y := 4) (by decide) rfl ?_
      refine r_callSI (d' := d - 1) (by omega) (kd228 rfl) (by decide) rfl rfl rfl rfl (Nat.le_of_ble_eq_true rfl) rfl L145 (Nat.le_of_ble_eq_true rfl) (Nat.le_of_ble_eq_true rfl) (Nat.zero_le _) (Nat.zero_le _) rfl rfl rfl (b_Mod_within (by omega) h) (fun x1 M1 h => ?_)
      refine r_if_ne (kd228 rfl) rfl (fun c => ?_) (fun c => ?_)
      · have h := h.1 c
        refine r_aload_n (kd228 rfl) rfl rfl ?_
        obtain ⟨g, h⟩ := h
        refine r_get2 (kd228 rfl) (by decide) rfl g rfl ?_
        refine r_iconst (kd228 rfl) (y := 5) (by decide) rfl ?_
        refine r_iload_n (kd228 rfl) rfl rfl ?_
        refine r_imul (kd228 rfl) rfl ?_
        refine r_iload_n (kd228 rfl) rfl rfl ?_
        refine r_iadd (kd228 rfl) rfl ?_
        obtain ⟨g, h⟩ := h
        refine r_iaload (kd228 rfl) g rfl ?_
        exact (b_Mod_log_49 hd h).less e_sn
      · have h := h.2 c
        exact (b_Mod_log_35 hd h).less e_sn
/-- TierMillModel.total(I)I -/
theorem kd229 {pc : Nat} {q : eI} (h : e_d229.lookup pc = some q) : e_dec 229 pc = some q := h
theorem L229 : (e_m 229).2.2.1 = 3 := rfl
theorem R229 : (e_m 229).2.2.2.1 = (some .int) := rfl
def w_Mod_total_84 (s0 : Int32) (M : eM) (Q : Int32 → eM → Prop) : Prop := Q s0 M
theorem b_Mod_total_84 {d : Nat} {s0 : Int32} {M : eM} {Q : Int32 → eM → Prop} (hd : 0 ≤ d) (h : w_Mod_total_84 s0 M Q ) : e_E 229 d 0 0 84 [] [.int s0] M (e_QI Q) := by
  unfold w_Mod_total_84 at h
  exact r_ireturn (kd229 rfl) R229 h
def w_Mod_total_102 (s0 : Int32) (M : eM) (Q : Int32 → eM → Prop) : Prop := Q s0 M
theorem b_Mod_total_102 {d : Nat} {s0 : Int32} {M : eM} {Q : Int32 → eM → Prop} (hd : 0 ≤ d) (h : w_Mod_total_102 s0 M Q ) : e_E 229 d 0 0 102 [] [.int s0] M (e_QI Q) := by
  unfold w_Mod_total_102 at h
  exact r_ireturn (kd229 rfl) R229 h
def w_Mod_total_115 (s0 : Int32) (M : eM) (Q : Int32 → eM → Prop) : Prop := Q s0 M
theorem b_Mod_total_115 {d : Nat} {s0 : Int32} {M : eM} {Q : Int32 → eM → Prop} (hd : 0 ≤ d) (h : w_Mod_total_115 s0 M Q ) : e_E 229 d 0 0 115 [] [.int s0] M (e_QI Q) := by
  unfold w_Mod_total_115 at h
  exact r_ireturn (kd229 rfl) R229 h
def w_Mod_total_128 (s0 : Int32) (M : eM) (Q : Int32 → eM → Prop) : Prop := Q s0 M
theorem b_Mod_total_128 {d : Nat} {s0 : Int32} {M : eM} {Q : Int32 → eM → Prop} (hd : 0 ≤ d) (h : w_Mod_total_128 s0 M Q ) : e_E 229 d 0 0 128 [] [.int s0] M (e_QI Q) := by
  unfold w_Mod_total_128 at h
  exact r_ireturn (kd229 rfl) R229 h
def w_Mod_total_141 (s0 : Int32) (M : eM) (Q : Int32 → eM → Prop) : Prop := Q s0 M
theorem b_Mod_total_141 {d : Nat} {s0 : Int32} {M : eM} {Q : Int32 → eM → Prop} (hd : 0 ≤ d) (h : w_Mod_total_141 s0 M Q ) : e_E 229 d 0 0 141 [] [.int s0] M (e_QI Q) := by
  unfold w_Mod_total_141 at h
  exact r_ireturn (kd229 rfl) R229 h
def w_Mod_total_154 (s0 : Int32) (M : eM) (Q : Int32 → eM → Prop) : Prop := Q s0 M
theorem b_Mod_total_154 {d : Nat} {s0 : Int32} {M : eM} {Q : Int32 → eM → Prop} (hd : 0 ≤ d) (h : w_Mod_total_154 s0 M Q ) : e_E 229 d 0 0 154 [] [.int s0] M (e_QI Q) := by
  unfold w_Mod_total_154 at h
  exact r_ireturn (kd229 rfl) R229 h
def w_Mod_total_177 (s0 : Int32) (M : eM) (Q : Int32 → eM → Prop) : Prop := Q s0 M
theorem b_Mod_total_177 {d : Nat} {s0 : Int32} {M : eM} {Q : Int32 → eM → Prop} (hd : 0 ≤ d) (h : w_Mod_total_177 s0 M Q ) : e_E 229 d 0 0 177 [] [.int s0] M (e_QI Q) := by
  unfold w_Mod_total_177 at h
  exact r_ireturn (kd229 rfl) R229 h
def w_Mod_total_17 (l0 : Nat) (l1 : Int32) (s0 : Int32) (M : eM) (Q : Int32 → eM → Prop) : Prop := (l1 = 0 → (s0 = 0 → w_Mod_total_84 0 M Q) ∧ (¬ s0 = 0 → e_ob M l0 12 ∧ w_Mod_total_84 (gi M l0 44) M Q)) ∧ (¬ l1 = 0 → (l1 = 1 → e_ob M l0 12 ∧ Q (gi M l0 45) M) ∧ (¬ l1 = 1 → (l1 = 2 → (s0 = 0 → w_Mod_total_102 0 M Q) ∧ (¬ s0 = 0 → e_ob M l0 12 ∧ w_Mod_total_102 (gi M l0 47) M Q)) ∧ (¬ l1 = 2 → (l1 = 3 → (s0 = 0 → w_Mod_total_115 0 M Q) ∧ (¬ s0 = 0 → e_ob M l0 12 ∧ w_Mod_total_115 (gi M l0 60) M Q)) ∧ (¬ l1 = 3 → (l1 = 4 → (s0 = 0 → w_Mod_total_128 0 M Q) ∧ (¬ s0 = 0 → e_ob M l0 12 ∧ w_Mod_total_128 (gi M l0 52) M Q)) ∧ (¬ l1 = 4 → (l1 = 5 → (s0 = 0 → w_Mod_total_141 0 M Q) ∧ (¬ s0 = 0 → e_ob M l0 12 ∧ w_Mod_total_141 (gi M l0 71) M Q)) ∧ (¬ l1 = 5 → (l1 = 6 → (s0 = 0 → w_Mod_total_154 0 M Q) ∧ (¬ s0 = 0 → e_ob M l0 12 ∧ w_Mod_total_154 (gi M l0 72) M Q)) ∧ (¬ l1 = 6 → (l1 = 7 → e_ob M l0 12 ∧ Q (gi M l0 46) M) ∧ (¬ l1 = 7 → (l1 = 8 → e_ob M l0 12 ∧ Q (gi M l0 39) M) ∧ (¬ l1 = 8 → (l1 = 9 → (s0 = 0 → w_Mod_total_177 0 M Q) ∧ (¬ s0 = 0 → e_ob M l0 12 ∧ w_Mod_total_177 (gi M l0 70) M Q)) ∧ (¬ l1 = 9 → Q ((-1) : Int32) M))))))))))
theorem b_Mod_total_17 {d : Nat} {l0 : Nat} {l1 : Int32} {s0 : Int32} {M : eM} {Q : Int32 → eM → Prop} (hd : 0 ≤ d) (h : w_Mod_total_17 l0 l1 s0 M Q ) : e_E 229 d 0 0 17 [(0, .ref l0), (1, .int l1)] [.int s0] M (e_QI Q) := by
  unfold w_Mod_total_17 at h
  refine r_istore_n (kd229 rfl) L229 (by decide) rfl rfl ?_
  refine r_iload_n (kd229 rfl) rfl rfl ?_
  refine r_tableswitch (kd229 rfl) (u := 178) (qs := [(0, 72), (1, 85), (2, 90), (3, 103), (4, 116), (5, 129), (6, 142), (7, 155), (8, 160), (9, 165)]) rfl rfl rfl (by decide) ?_
  refine ⟨fun c => ?_, fun c => ?_⟩
  · have h := h.1 c
    refine r_iload_n (kd229 rfl) rfl rfl ?_
    refine r_if_eq (kd229 rfl) rfl (fun c => ?_) (fun c => ?_)
    · have h := h.1 c
      refine r_iconst (kd229 rfl) (y := 0) (by decide) rfl ?_
      exact (b_Mod_total_84 hd h).less e_sn
    · have h := h.2 c
      refine r_aload_n (kd229 rfl) rfl rfl ?_
      obtain ⟨g, h⟩ := h
      refine r_get0 (kd229 rfl) (by decide) rfl g rfl ?_
      refine r_goto (kd229 rfl) ?_
      exact (b_Mod_total_84 hd h).less e_sn
  have h := h.2 c
  refine ⟨fun c => ?_, fun c => ?_⟩
  · have h := h.1 c
    refine r_aload_n (kd229 rfl) rfl rfl ?_
    obtain ⟨g, h⟩ := h
    refine r_get0 (kd229 rfl) (by decide) rfl g rfl ?_
    exact r_ireturn (kd229 rfl) R229 h
  have h := h.2 c
  refine ⟨fun c => ?_, fun c => ?_⟩
  · have h := h.1 c
    refine r_iload_n (kd229 rfl) rfl rfl ?_
    refine r_if_eq (kd229 rfl) rfl (fun c => ?_) (fun c => ?_)
    · have h := h.1 c
      refine r_iconst (kd229 rfl) (y := 0) (by decide) rfl ?_
      exact (b_Mod_total_102 hd h).less e_sn
    · have h := h.2 c
      refine r_aload_n (kd229 rfl) rfl rfl ?_
      obtain ⟨g, h⟩ := h
      refine r_get0 (kd229 rfl) (by decide) rfl g rfl ?_
      refine r_goto (kd229 rfl) ?_
      exact (b_Mod_total_102 hd h).less e_sn
  have h := h.2 c
  refine ⟨fun c => ?_, fun c => ?_⟩
  · have h := h.1 c
    refine r_iload_n (kd229 rfl) rfl rfl ?_
    refine r_if_eq (kd229 rfl) rfl (fun c => ?_) (fun c => ?_)
    · have h := h.1 c
      refine r_iconst (kd229 rfl) (y := 0) (by decide) rfl ?_
      exact (b_Mod_total_115 hd h).less e_sn
    · have h := h.2 c
      refine r_aload_n (kd229 rfl) rfl rfl ?_
      obtain ⟨g, h⟩ := h
      refine r_get0 (kd229 rfl) (by decide) rfl g rfl ?_
      refine r_goto (kd229 rfl) ?_
      exact (b_Mod_total_115 hd h).less e_sn
  have h := h.2 c
  refine ⟨fun c => ?_, fun c => ?_⟩
  · have h := h.1 c
    refine r_iload_n (kd229 rfl) rfl rfl ?_
    refine r_if_eq (kd229 rfl) rfl (fun c => ?_) (fun c => ?_)
    · have h := h.1 c
      refine r_iconst (kd229 rfl) (y := 0) (by decide) rfl ?_
      exact (b_Mod_total_128 hd h).less e_sn
    · have h := h.2 c
      refine r_aload_n (kd229 rfl) rfl rfl ?_
      obtain ⟨g, h⟩ := h
      refine r_get0 (kd229 rfl) (by decide) rfl g rfl ?_
      refine r_goto (kd229 rfl) ?_
      exact (b_Mod_total_128 hd h).less e_sn
  have h := h.2 c
  refine ⟨fun c => ?_, fun c => ?_⟩
  · have h := h.1 c
    refine r_iload_n (kd229 rfl) rfl rfl ?_
    refine r_if_eq (kd229 rfl) rfl (fun c => ?_) (fun c => ?_)
    · have h := h.1 c
      refine r_iconst (kd229 rfl) (y := 0) (by decide) rfl ?_
      exact (b_Mod_total_141 hd h).less e_sn
    · have h := h.2 c
      refine r_aload_n (kd229 rfl) rfl rfl ?_
      obtain ⟨g, h⟩ := h
      refine r_get0 (kd229 rfl) (by decide) rfl g rfl ?_
      refine r_goto (kd229 rfl) ?_
      exact (b_Mod_total_141 hd h).less e_sn
  have h := h.2 c
  refine ⟨fun c => ?_, fun c => ?_⟩
  · have h := h.1 c
    refine r_iload_n (kd229 rfl) rfl rfl ?_
    refine r_if_eq (kd229 rfl) rfl (fun c => ?_) (fun c => ?_)
    · have h := h.1 c
      refine r_iconst (kd229 rfl) (y := 0) (by decide) rfl ?_
      exact (b_Mod_total_154 hd h).less e_sn
    · have h := h.2 c
      refine r_aload_n (kd229 rfl) rfl rfl ?_
      obtain ⟨g, h⟩ := h
      refine r_get0 (kd229 rfl) (by decide) rfl g rfl ?_
      refine r_goto (kd229 rfl) ?_
      exact (b_Mod_total_154 hd h).less e_sn
  have h := h.2 c
  refine ⟨fun c => ?_, fun c => ?_⟩
  · have h := h.1 c
    refine r_aload_n (kd229 rfl) rfl rfl ?_
    obtain ⟨g, h⟩ := h
    refine r_get0 (kd229 rfl) (by decide) rfl g rfl ?_
    exact r_ireturn (kd229 rfl) R229 h
  have h := h.2 c
  refine ⟨fun c => ?_, fun c => ?_⟩
  · have h := h.1 c
    refine r_aload_n (kd229 rfl) rfl rfl ?_
    obtain ⟨g, h⟩ := h
    refine r_get0 (kd229 rfl) (by decide) rfl g rfl ?_
    exact r_ireturn (kd229 rfl) R229 h
  have h := h.2 c
  refine ⟨fun c => ?_, fun c => ?_⟩
  · have h := h.1 c
    refine r_iload_n (kd229 rfl) rfl rfl ?_
    refine r_if_eq (kd229 rfl) rfl (fun c => ?_) (fun c => ?_)
    · have h := h.1 c
      refine r_iconst (kd229 rfl) (y := 0) (by decide) rfl ?_
      exact (b_Mod_total_177 hd h).less e_sn
    · have h := h.2 c
      refine r_aload_n (kd229 rfl) rfl rfl ?_
      obtain ⟨g, h⟩ := h
      refine r_get0 (kd229 rfl) (by decide) rfl g rfl ?_
      refine r_goto (kd229 rfl) ?_
      exact (b_Mod_total_177 hd h).less e_sn
  have h := h.2 c
  show e_E 229 _ _ _ 178 _ _ _ _
  refine r_iconst (kd229 rfl) (y := (-1)) (by decide) rfl ?_
  exact r_ireturn (kd229 rfl) R229 h
def w_Mod_total (l0 : Nat) (l1 : Int32) (M : eM) (Q : Int32 → eM → Prop) : Prop := e_ob M l0 12 ∧ ∀ M1 : eM, M1 = e_si M l0 0 0 → e_ob M1 l0 12 ∧ ((gi M1 l0 41) = 0 → w_Mod_total_17 l0 l1 0 M1 Q) ∧ (¬ (gi M1 l0 41) = 0 → w_Mod_total_17 l0 l1 1 M1 Q)
theorem b_Mod_total {d : Nat} {l0 : Nat} {l1 : Int32} {M : eM} {Q : Int32 → eM → Prop} (hd : 0 ≤ d) (h : w_Mod_total l0 l1 M Q) : e_CI 229 d 0 0 [.ref l0, .int l1] M Q := by
  unfold w_Mod_total at h
  show e_E 229 d 0 0 0 [(0, .ref l0), (1, .int l1)] [] M (e_QI Q)
  refine r_aload_n (kd229 rfl) rfl rfl ?_
  refine r_iconst (kd229 rfl) (y := 0) (by decide) rfl ?_
  obtain ⟨g, h⟩ := h
  have h := h _ rfl
  refine r_put0 (kd229 rfl) (by decide) rfl g rfl ?_
  refine r_aload_n (kd229 rfl) rfl rfl ?_
  obtain ⟨g, h⟩ := h
  refine r_get0 (kd229 rfl) (by decide) rfl g rfl ?_
  refine r_if_eq (kd229 rfl) rfl (fun c => ?_) (fun c => ?_)
  · have h := h.1 c
    refine r_iconst (kd229 rfl) (y := 0) (by decide) rfl ?_
    exact (b_Mod_total_17 hd h).less (e_sc (List.mem_of_getElem? (i := 0) rfl) (e_sc (List.mem_of_getElem? (i := 1) rfl) e_sn))
  · have h := h.2 c
    refine r_iconst (kd229 rfl) (y := 1) (by decide) rfl ?_
    refine r_goto (kd229 rfl) ?_
    exact (b_Mod_total_17 hd h).less (e_sc (List.mem_of_getElem? (i := 0) rfl) (e_sc (List.mem_of_getElem? (i := 1) rfl) e_sn))
