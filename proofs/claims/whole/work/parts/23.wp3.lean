/-- TierMillModel.findFault(III)Z -/
theorem kd163 {pc : Nat} {q : eI} (h : e_d163.lookup pc = some q) : e_dec 163 pc = some q := h
theorem L163 : (e_m 163).2.2.1 = 4 := rfl
theorem R163 : (e_m 163).2.2.2.1 = (some .boolean) := rfl
def w_Mod_findFault (l0 : Nat) (l1 : Int32) (l2 : Int32) (l3 : Int32) (M : eM) (Q : Int32 → eM → Prop) : Prop := e_ob M l0 12 ∧ ∀ M1 : eM, M1 = e_si M l0 8 l1 → e_ob M1 l0 12 ∧ ∀ M2 : eM, M2 = e_si M1 l0 10 l2 → e_ob M2 l0 12 ∧ ∀ M3 : eM, M3 = e_si M2 l0 9 l3 → ((0 : Int32) = 0 ∨ (0 : Int32) = 1) ∧ Q (0 : Int32) M3
theorem b_Mod_findFault {d : Nat} {l0 : Nat} {l1 : Int32} {l2 : Int32} {l3 : Int32} {M : eM} {Q : Int32 → eM → Prop} (hd : 0 ≤ d) (h : w_Mod_findFault l0 l1 l2 l3 M Q) : e_CI 163 d 0 0 [.ref l0, .int l1, .int l2, .int l3] M Q := by
  unfold w_Mod_findFault at h
  show e_E 163 d 0 0 0 [(0, .ref l0), (1, .int l1), (2, .int l2), (3, .int l3)] [] M (e_QI Q)
  refine r_aload_n (kd163 rfl) rfl rfl ?_
  refine r_iload_n (kd163 rfl) rfl rfl ?_
  obtain ⟨g, h⟩ := h
  have h := h _ rfl
  refine r_put0 (kd163 rfl) (by decide) rfl g rfl ?_
  refine r_aload_n (kd163 rfl) rfl rfl ?_
  refine r_iload_n (kd163 rfl) rfl rfl ?_
  obtain ⟨g, h⟩ := h
  have h := h _ rfl
  refine r_put0 (kd163 rfl) (by decide) rfl g rfl ?_
  refine r_aload_n (kd163 rfl) rfl rfl ?_
  refine r_iload_n (kd163 rfl) rfl rfl ?_
  obtain ⟨g, h⟩ := h
  have h := h _ rfl
  refine r_put0 (kd163 rfl) (by decide) rfl g rfl ?_
  refine r_iconst (kd163 rfl) (y := 0) (by decide) rfl ?_
  exact r_zreturn (kd163 rfl) R163 h.1 h.2
/-- TierMillModel.joined(II)I -/
theorem kd169 {pc : Nat} {q : eI} (h : e_d169.lookup pc = some q) : e_dec 169 pc = some q := h
theorem L169 : (e_m 169).2.2.1 = 4 := rfl
theorem R169 : (e_m 169).2.2.2.1 = (some .int) := rfl
def w_Mod_joined_23 (l2 : Int32) (M : eM) (Q : Int32 → eM → Prop) : Prop := Q l2 M
theorem b_Mod_joined_23 {d : Nat} {l2 : Int32} {M : eM} {Q : Int32 → eM → Prop} (hd : 2 ≤ d) (h : w_Mod_joined_23 l2 M Q ) : e_E 169 d 0 0 23 [(2, .int l2)] [] M (e_QI Q) := by
  unfold w_Mod_joined_23 at h
  refine r_iload_n (kd169 rfl) rfl rfl ?_
  exact r_ireturn (kd169 rfl) R169 h
def w_Mod_joined_41 (l1 : Int32) (M : eM) (Q : Int32 → eM → Prop) : Prop := Q l1 M
theorem b_Mod_joined_41 {d : Nat} {l1 : Int32} {M : eM} {Q : Int32 → eM → Prop} (hd : 2 ≤ d) (h : w_Mod_joined_41 l1 M Q ) : e_E 169 d 0 0 41 [(1, .int l1)] [] M (e_QI Q) := by
  unfold w_Mod_joined_41 at h
  refine r_iload_n (kd169 rfl) rfl rfl ?_
  exact r_ireturn (kd169 rfl) R169 h
def w_Mod_joined_55 (M : eM) (Q : Int32 → eM → Prop) : Prop := Q (0 : Int32) M
theorem b_Mod_joined_55 {d : Nat} {M : eM} {Q : Int32 → eM → Prop} (hd : 2 ≤ d) (h : w_Mod_joined_55 M Q ) : e_E 169 d 0 0 55 [] [] M (e_QI Q) := by
  unfold w_Mod_joined_55 at h
  refine r_iconst (kd169 rfl) (y := 0) (by decide) rfl ?_
  exact r_ireturn (kd169 rfl) R169 h
def w_Mod_joined_69 (M : eM) (Q : Int32 → eM → Prop) : Prop := Q (15 : Int32) M
theorem b_Mod_joined_69 {d : Nat} {M : eM} {Q : Int32 → eM → Prop} (hd : 2 ≤ d) (h : w_Mod_joined_69 M Q ) : e_E 169 d 0 0 69 [] [] M (e_QI Q) := by
  unfold w_Mod_joined_69 at h
  refine r_bipush (kd169 rfl) (y := 15) (by decide) rfl ?_
  exact r_ireturn (kd169 rfl) R169 h
def w_Mod_joined_77 : Nat → Nat → Int32 → Int32 → eM → (Int32 → eM → Prop) → Prop
  | 0, _, _, _, _, _ => False
  | n + 1, l0, l2, l3, M, Q => (l3 < 0 → Q (15 : Int32) M) ∧ (¬ l3 < 0 → e_ob M l0 12 ∧ w_Mod_isOf l0 (l2 - 16) l3 M (fun (v3 : Int32) (M2 : eM) => (v3 = 0 → e_ob M2 l0 12 ∧ e_ai M2 (gr M2 l0 12) l3 ∧ (fun l0 l2 l3 M => w_Mod_joined_77 n l0 l2 l3 M Q ) l0 l2 (gi M2 (gr M2 l0 12) l3.toNatClampNeg) M2) ∧ (¬ v3 = 0 → Q (16 + l3) M2)))
theorem b_Mod_joined_77 {d : Nat} {Q : Int32 → eM → Prop} (hd : 2 ≤ d) (n : Nat) : ∀ (l0 : Nat) (l2 : Int32) (l3 : Int32) (M : eM), w_Mod_joined_77 n l0 l2 l3 M Q → e_E 169 d 0 0 77 [(0, .ref l0), (2, .int l2), (3, .int l3)] [] M (e_QI Q) := by
  induction n with
  | zero => intro l0 l2 l3 M h; exact False.elim h
  | succ n ih =>
    intro l0 l2 l3 M h
    have hk77 := ih
    refine r_iload_n (kd169 rfl) rfl rfl ?_
    refine r_if_lt (kd169 rfl) rfl (fun c => ?_) (fun c => ?_)
    · have h := h.1 c
      refine r_bipush (kd169 rfl) (y := 15) (by decide) rfl ?_
      exact r_ireturn (kd169 rfl) R169 h
    · have h := h.2 c
      refine r_aload_n (kd169 rfl) rfl rfl ?_
      refine r_iload_n (kd169 rfl) rfl rfl ?_
      refine r_bipush (kd169 rfl) (y := 16) (by decide) rfl ?_
      refine r_isub (kd169 rfl) rfl ?_
      refine r_iload_n (kd169 rfl) rfl rfl ?_
      obtain ⟨g, h⟩ := h
      refine r_callVI (d' := d - 1) (by omega) (kd169 rfl) (by decide) rfl rfl rfl rfl (Nat.le_of_ble_eq_true rfl) rfl L153 (Nat.le_of_ble_eq_true rfl) (Nat.le_of_ble_eq_true rfl) g (Nat.zero_le _) (Nat.zero_le _) rfl rfl rfl (b_Mod_isOf (by omega) h) (fun x1 M1 h => ?_)
      refine r_if_eq (kd169 rfl) rfl (fun c => ?_) (fun c => ?_)
      · have h := h.1 c
        refine r_aload_n (kd169 rfl) rfl rfl ?_
        obtain ⟨g, h⟩ := h
        refine r_get2 (kd169 rfl) (by decide) rfl g rfl ?_
        refine r_iload_n (kd169 rfl) rfl rfl ?_
        obtain ⟨g, h⟩ := h
        refine r_iaload (kd169 rfl) g rfl ?_
        refine r_istore_n (kd169 rfl) L169 (by decide) rfl rfl ?_
        refine r_goto (kd169 rfl) ?_
        exact (hk77 _ _ _ _ h).less (e_sc (List.mem_of_getElem? (i := 1) rfl) (e_sc (List.mem_of_getElem? (i := 2) rfl) (e_sc (List.mem_of_getElem? (i := 0) rfl) e_sn)))
      · have h := h.2 c
        refine r_bipush (kd169 rfl) (y := 16) (by decide) rfl ?_
        refine r_iload_n (kd169 rfl) rfl rfl ?_
        refine r_iadd (kd169 rfl) rfl ?_
        exact r_ireturn (kd169 rfl) R169 h
def w_Mod_joined_43 (l0 : Nat) (l1 : Int32) (l2 : Int32) (M : eM) (Q : Int32 → eM → Prop) : Prop := (l1 < 15 → w_Mod_joined_55 M Q) ∧ (¬ l1 < 15 → (15 ≤ l2 → (l1 = 15 → w_Mod_joined_69 M Q) ∧ (¬ l1 = 15 → (¬ l2 = 15 → ∃ n1 : Nat, w_Mod_joined_77 n1 l0 l2 (l1 - 16) M Q) ∧ (l2 = 15 → w_Mod_joined_69 M Q))) ∧ (¬ 15 ≤ l2 → w_Mod_joined_55 M Q))
theorem b_Mod_joined_43 {d : Nat} {l0 : Nat} {l1 : Int32} {l2 : Int32} {M : eM} {Q : Int32 → eM → Prop} (hd : 2 ≤ d) (h : w_Mod_joined_43 l0 l1 l2 M Q ) : e_E 169 d 0 0 43 [(0, .ref l0), (1, .int l1), (2, .int l2)] [] M (e_QI Q) := by
  unfold w_Mod_joined_43 at h
  refine r_iload_n (kd169 rfl) rfl rfl ?_
  refine r_bipush (kd169 rfl) (y := 15) (by decide) rfl ?_
  refine r_icmp_lt (kd169 rfl) rfl (fun c => ?_) (fun c => ?_)
  · have h := h.1 c
    exact (b_Mod_joined_55 hd h).less e_sn
  · have h := h.2 c
    refine r_iload_n (kd169 rfl) rfl rfl ?_
    refine r_bipush (kd169 rfl) (y := 15) (by decide) rfl ?_
    refine r_icmp_ge (kd169 rfl) rfl (fun c => ?_) (fun c => ?_)
    · have h := h.1 c
      refine r_iload_n (kd169 rfl) rfl rfl ?_
      refine r_bipush (kd169 rfl) (y := 15) (by decide) rfl ?_
      refine r_icmp_eq (kd169 rfl) rfl (fun c => ?_) (fun c => ?_)
      · have h := h.1 c
        exact (b_Mod_joined_69 hd h).less e_sn
      · have h := h.2 c
        refine r_iload_n (kd169 rfl) rfl rfl ?_
        refine r_bipush (kd169 rfl) (y := 15) (by decide) rfl ?_
        refine r_icmp_ne (kd169 rfl) rfl (fun c => ?_) (fun c => ?_)
        · have h := h.1 c
          refine r_iload_n (kd169 rfl) rfl rfl ?_
          refine r_bipush (kd169 rfl) (y := 16) (by decide) rfl ?_
          refine r_isub (kd169 rfl) rfl ?_
          refine r_istore_n (kd169 rfl) L169 (by decide) rfl rfl ?_
          obtain ⟨n, h⟩ := h
          exact (b_Mod_joined_77 hd n _ _ _ _ h).less (e_sc (List.mem_of_getElem? (i := 1) rfl) (e_sc (List.mem_of_getElem? (i := 3) rfl) (e_sc (List.mem_of_getElem? (i := 0) rfl) e_sn)))
        · have h := h.2 c
          exact (b_Mod_joined_69 hd h).less e_sn
    · have h := h.2 c
      exact (b_Mod_joined_55 hd h).less e_sn
def w_Mod_joined_25 (l0 : Nat) (l1 : Int32) (l2 : Int32) (M : eM) (Q : Int32 → eM → Prop) : Prop := (¬ l2 = 3 → w_Mod_joined_43 l0 l1 l2 M Q) ∧ (l2 = 3 → (l1 = 2 → w_Mod_joined_41 l1 M Q) ∧ (¬ l1 = 2 → (l1 < 15 → w_Mod_joined_43 l0 l1 l2 M Q) ∧ (¬ l1 < 15 → w_Mod_joined_41 l1 M Q)))
theorem b_Mod_joined_25 {d : Nat} {l0 : Nat} {l1 : Int32} {l2 : Int32} {M : eM} {Q : Int32 → eM → Prop} (hd : 2 ≤ d) (h : w_Mod_joined_25 l0 l1 l2 M Q ) : e_E 169 d 0 0 25 [(0, .ref l0), (1, .int l1), (2, .int l2)] [] M (e_QI Q) := by
  unfold w_Mod_joined_25 at h
  refine r_iload_n (kd169 rfl) rfl rfl ?_
  refine r_iconst (kd169 rfl) (y := 3) (by decide) rfl ?_
  refine r_icmp_ne (kd169 rfl) rfl (fun c => ?_) (fun c => ?_)
  · have h := h.1 c
    exact (b_Mod_joined_43 hd h).less (e_sc (List.mem_of_getElem? (i := 0) rfl) (e_sc (List.mem_of_getElem? (i := 1) rfl) (e_sc (List.mem_of_getElem? (i := 2) rfl) e_sn)))
  · have h := h.2 c
    refine r_iload_n (kd169 rfl) rfl rfl ?_
    refine r_iconst (kd169 rfl) (y := 2) (by decide) rfl ?_
    refine r_icmp_eq (kd169 rfl) rfl (fun c => ?_) (fun c => ?_)
    · have h := h.1 c
      exact (b_Mod_joined_41 hd h).less (e_sc (List.mem_of_getElem? (i := 1) rfl) e_sn)
    · have h := h.2 c
      refine r_iload_n (kd169 rfl) rfl rfl ?_
      refine r_bipush (kd169 rfl) (y := 15) (by decide) rfl ?_
      refine r_icmp_lt (kd169 rfl) rfl (fun c => ?_) (fun c => ?_)
      · have h := h.1 c
        exact (b_Mod_joined_43 hd h).less (e_sc (List.mem_of_getElem? (i := 0) rfl) (e_sc (List.mem_of_getElem? (i := 1) rfl) (e_sc (List.mem_of_getElem? (i := 2) rfl) e_sn)))
      · have h := h.2 c
        exact (b_Mod_joined_41 hd h).less (e_sc (List.mem_of_getElem? (i := 1) rfl) e_sn)
def w_Mod_joined (l0 : Nat) (l1 : Int32) (l2 : Int32) (M : eM) (Q : Int32 → eM → Prop) : Prop := (¬ l1 = l2 → (¬ l1 = 3 → w_Mod_joined_25 l0 l1 l2 M Q) ∧ (l1 = 3 → (l2 = 2 → w_Mod_joined_23 l2 M Q) ∧ (¬ l2 = 2 → (l2 < 15 → w_Mod_joined_25 l0 l1 l2 M Q) ∧ (¬ l2 < 15 → w_Mod_joined_23 l2 M Q)))) ∧ (l1 = l2 → Q l1 M)
theorem b_Mod_joined {d : Nat} {l0 : Nat} {l1 : Int32} {l2 : Int32} {M : eM} {Q : Int32 → eM → Prop} (hd : 2 ≤ d) (h : w_Mod_joined l0 l1 l2 M Q) : e_CI 169 d 0 0 [.ref l0, .int l1, .int l2] M Q := by
  unfold w_Mod_joined at h
  show e_E 169 d 0 0 0 [(0, .ref l0), (1, .int l1), (2, .int l2)] [] M (e_QI Q)
  refine r_iload_n (kd169 rfl) rfl rfl ?_
  refine r_iload_n (kd169 rfl) rfl rfl ?_
  refine r_icmp_ne (kd169 rfl) rfl (fun c => ?_) (fun c => ?_)
  · have h := h.1 c
    refine r_iload_n (kd169 rfl) rfl rfl ?_
    refine r_iconst (kd169 rfl) (y := 3) (by decide) rfl ?_
    refine r_icmp_ne (kd169 rfl) rfl (fun c => ?_) (fun c => ?_)
    · have h := h.1 c
      exact (b_Mod_joined_25 hd h).less (e_sc (List.mem_of_getElem? (i := 0) rfl) (e_sc (List.mem_of_getElem? (i := 1) rfl) (e_sc (List.mem_of_getElem? (i := 2) rfl) e_sn)))
    · have h := h.2 c
      refine r_iload_n (kd169 rfl) rfl rfl ?_
      refine r_iconst (kd169 rfl) (y := 2) (by decide) rfl ?_
      refine r_icmp_eq (kd169 rfl) rfl (fun c => ?_) (fun c => ?_)
      · have h := h.1 c
        exact (b_Mod_joined_23 hd h).less (e_sc (List.mem_of_getElem? (i := 2) rfl) e_sn)
      · have h := h.2 c
        refine r_iload_n (kd169 rfl) rfl rfl ?_
        refine r_bipush (kd169 rfl) (y := 15) (by decide) rfl ?_
        refine r_icmp_lt (kd169 rfl) rfl (fun c => ?_) (fun c => ?_)
        · have h := h.1 c
          exact (b_Mod_joined_25 hd h).less (e_sc (List.mem_of_getElem? (i := 0) rfl) (e_sc (List.mem_of_getElem? (i := 1) rfl) (e_sc (List.mem_of_getElem? (i := 2) rfl) e_sn)))
        · have h := h.2 c
          exact (b_Mod_joined_23 hd h).less (e_sc (List.mem_of_getElem? (i := 2) rfl) e_sn)
  · have h := h.2 c
    refine r_iload_n (kd169 rfl) rfl rfl ?_
    exact r_ireturn (kd169 rfl) R169 h
/-- TierMillModel.merge(IIZ)Z -/
theorem kd170 {pc : Nat} {q : eI} (h : e_d170.lookup pc = some q) : e_dec 170 pc = some q := h
theorem L170 : (e_m 170).2.2.1 = 8 := rfl
theorem R170 : (e_m 170).2.2.2.1 = (some .boolean) := rfl
def w_Mod_merge_51 (l0 : Nat) (l4 : Int32) (M : eM) (Q : Int32 → eM → Prop) : Prop := e_ob M l0 12 ∧ e_ar M (gr M l0 29) 20 l4 ∧ ∀ M6 : eM, M6 = e_si M (gr M l0 29) l4.toNatClampNeg (-2) → ((1 : Int32) = 0 ∨ (1 : Int32) = 1) ∧ Q (1 : Int32) M6
theorem b_Mod_merge_51 {d : Nat} {l0 : Nat} {l4 : Int32} {M : eM} {Q : Int32 → eM → Prop} (hd : 3 ≤ d) (h : w_Mod_merge_51 l0 l4 M Q ) : e_E 170 d 0 0 51 [(0, .ref l0), (4, .int l4)] [] M (e_QI Q) := by
  unfold w_Mod_merge_51 at h
  refine r_aload_n (kd170 rfl) rfl rfl ?_
  obtain ⟨g, h⟩ := h
  refine r_get2 (kd170 rfl) (by decide) rfl g rfl ?_
  refine r_iload (kd170 rfl) rfl rfl ?_
  refine r_bipush (kd170 rfl) (y := (-2)) (by decide) rfl ?_
  obtain ⟨g, h⟩ := h
  have h := h _ rfl
  refine r_iastore (kd170 rfl) g rfl ?_
  refine r_iconst (kd170 rfl) (y := 1) (by decide) rfl ?_
  exact r_zreturn (kd170 rfl) R170 h.1 h.2
def w_Mod_merge_174 (l0 : Nat) (l4 : Int32) (l6 : Int32) (l7 : Int32) (s0 : Int32) (M : eM) (Q : Int32 → eM → Prop) (k83 : Nat → Int32 → Int32 → Int32 → eM → Prop) : Prop := e_ob M l0 12 ∧ e_ar M (gr M l0 30) 20 ((16 * l4) + l6) ∧ ∀ M5 : eM, M5 = e_si M (gr M l0 30) ((16 * l4) + l6).toNatClampNeg l7 → k83 l0 l4 s0 (l6 + 1) M5
theorem b_Mod_merge_174 {d : Nat} {l0 : Nat} {l4 : Int32} {l6 : Int32} {l7 : Int32} {s0 : Int32} {M : eM} {Q : Int32 → eM → Prop} {k83 : Nat → Int32 → Int32 → Int32 → eM → Prop} (hd : 3 ≤ d) (hk83 : ∀ (l0 : Nat) (l4 : Int32) (l5 : Int32) (l6 : Int32) (M : eM), k83 l0 l4 l5 l6 M → e_E 170 d 0 0 83 [(0, .ref l0), (4, .int l4), (5, .int l5), (6, .int l6)] [] M (e_QI Q)) (h : w_Mod_merge_174 l0 l4 l6 l7 s0 M Q k83) : e_E 170 d 0 0 174 [(0, .ref l0), (4, .int l4), (6, .int l6), (7, .int l7)] [.int s0] M (e_QI Q) := by
  unfold w_Mod_merge_174 at h
  refine r_istore (kd170 rfl) L170 (by decide) rfl rfl ?_
  refine r_aload_n (kd170 rfl) rfl rfl ?_
  obtain ⟨g, h⟩ := h
  refine r_get2 (kd170 rfl) (by decide) rfl g rfl ?_
  refine r_bipush (kd170 rfl) (y := 16) (by decide) rfl ?_
  refine r_iload (kd170 rfl) rfl rfl ?_
  refine r_imul (kd170 rfl) rfl ?_
  refine r_iload (kd170 rfl) rfl rfl ?_
  refine r_iadd (kd170 rfl) rfl ?_
  refine r_iload (kd170 rfl) rfl rfl ?_
  obtain ⟨g, h⟩ := h
  have h := h _ rfl
  refine r_iastore (kd170 rfl) g rfl ?_
  refine r_iinc (kd170 rfl) rfl (y := 1) (by decide) L170 (by decide) rfl rfl ?_
  refine r_goto (kd170 rfl) ?_
  exact (hk83 _ _ _ _ _ h).less (e_sc (List.mem_of_getElem? (i := 2) rfl) (e_sc (List.mem_of_getElem? (i := 3) rfl) (e_sc (List.mem_of_getElem? (i := 1) rfl) (e_sc (List.mem_of_getElem? (i := 0) rfl) e_sn))))
def w_Mod_merge_169 (l0 : Nat) (l4 : Int32) (l6 : Int32) (l7 : Int32) (M : eM) (Q : Int32 → eM → Prop) (k83 : Nat → Int32 → Int32 → Int32 → eM → Prop) : Prop := w_Mod_merge_174 l0 l4 l6 l7 1 M Q k83
theorem b_Mod_merge_169 {d : Nat} {l0 : Nat} {l4 : Int32} {l6 : Int32} {l7 : Int32} {M : eM} {Q : Int32 → eM → Prop} {k83 : Nat → Int32 → Int32 → Int32 → eM → Prop} (hd : 3 ≤ d) (hk83 : ∀ (l0 : Nat) (l4 : Int32) (l5 : Int32) (l6 : Int32) (M : eM), k83 l0 l4 l5 l6 M → e_E 170 d 0 0 83 [(0, .ref l0), (4, .int l4), (5, .int l5), (6, .int l6)] [] M (e_QI Q)) (h : w_Mod_merge_169 l0 l4 l6 l7 M Q k83) : e_E 170 d 0 0 169 [(0, .ref l0), (4, .int l4), (6, .int l6), (7, .int l7)] [] M (e_QI Q) := by
  unfold w_Mod_merge_169 at h
  refine r_iconst (kd170 rfl) (y := 1) (by decide) rfl ?_
  refine r_goto (kd170 rfl) ?_
  exact (b_Mod_merge_174 hd hk83 h).less (e_sc (List.mem_of_getElem? (i := 0) rfl) (e_sc (List.mem_of_getElem? (i := 1) rfl) (e_sc (List.mem_of_getElem? (i := 2) rfl) (e_sc (List.mem_of_getElem? (i := 3) rfl) e_sn))))
def w_Mod_merge_146 (l0 : Nat) (l4 : Int32) (l5 : Int32) (l6 : Int32) (l7 : Int32) (M : eM) (Q : Int32 → eM → Prop) (k83 : Nat → Int32 → Int32 → Int32 → eM → Prop) : Prop := (¬ l5 = 0 → w_Mod_merge_169 l0 l4 l6 l7 M Q k83) ∧ (l5 = 0 → e_ob M l0 12 ∧ e_ai M (gr M l0 30) ((16 * l4) + l6) ∧ (l7 = (gi M (gr M l0 30) ((16 * l4) + l6).toNatClampNeg) → w_Mod_merge_174 l0 l4 l6 l7 0 M Q k83) ∧ (¬ l7 = (gi M (gr M l0 30) ((16 * l4) + l6).toNatClampNeg) → w_Mod_merge_169 l0 l4 l6 l7 M Q k83))
theorem b_Mod_merge_146 {d : Nat} {l0 : Nat} {l4 : Int32} {l5 : Int32} {l6 : Int32} {l7 : Int32} {M : eM} {Q : Int32 → eM → Prop} {k83 : Nat → Int32 → Int32 → Int32 → eM → Prop} (hd : 3 ≤ d) (hk83 : ∀ (l0 : Nat) (l4 : Int32) (l5 : Int32) (l6 : Int32) (M : eM), k83 l0 l4 l5 l6 M → e_E 170 d 0 0 83 [(0, .ref l0), (4, .int l4), (5, .int l5), (6, .int l6)] [] M (e_QI Q)) (h : w_Mod_merge_146 l0 l4 l5 l6 l7 M Q k83) : e_E 170 d 0 0 146 [(0, .ref l0), (4, .int l4), (5, .int l5), (6, .int l6), (7, .int l7)] [] M (e_QI Q) := by
  unfold w_Mod_merge_146 at h
  refine r_iload (kd170 rfl) rfl rfl ?_
  refine r_if_ne (kd170 rfl) rfl (fun c => ?_) (fun c => ?_)
  · have h := h.1 c
    exact (b_Mod_merge_169 hd hk83 h).less (e_sc (List.mem_of_getElem? (i := 0) rfl) (e_sc (List.mem_of_getElem? (i := 1) rfl) (e_sc (List.mem_of_getElem? (i := 3) rfl) (e_sc (List.mem_of_getElem? (i := 4) rfl) e_sn))))
  · have h := h.2 c
    refine r_iload (kd170 rfl) rfl rfl ?_
    refine r_aload_n (kd170 rfl) rfl rfl ?_
    obtain ⟨g, h⟩ := h
    refine r_get2 (kd170 rfl) (by decide) rfl g rfl ?_
    refine r_bipush (kd170 rfl) (y := 16) (by decide) rfl ?_
    refine r_iload (kd170 rfl) rfl rfl ?_
    refine r_imul (kd170 rfl) rfl ?_
    refine r_iload (kd170 rfl) rfl rfl ?_
    refine r_iadd (kd170 rfl) rfl ?_
    obtain ⟨g, h⟩ := h
    refine r_iaload (kd170 rfl) g rfl ?_
    refine r_icmp_eq (kd170 rfl) rfl (fun c => ?_) (fun c => ?_)
    · have h := h.1 c
      refine r_iconst (kd170 rfl) (y := 0) (by decide) rfl ?_
      exact (b_Mod_merge_174 hd hk83 h).less (e_sc (List.mem_of_getElem? (i := 0) rfl) (e_sc (List.mem_of_getElem? (i := 1) rfl) (e_sc (List.mem_of_getElem? (i := 3) rfl) (e_sc (List.mem_of_getElem? (i := 4) rfl) e_sn))))
    · have h := h.2 c
      exact (b_Mod_merge_169 hd hk83 h).less (e_sc (List.mem_of_getElem? (i := 0) rfl) (e_sc (List.mem_of_getElem? (i := 1) rfl) (e_sc (List.mem_of_getElem? (i := 3) rfl) (e_sc (List.mem_of_getElem? (i := 4) rfl) e_sn))))
def w_Mod_merge_129 (l0 : Nat) (l4 : Int32) (l5 : Int32) (l6 : Int32) (s0 : Int32) (M : eM) (Q : Int32 → eM → Prop) (k83 : Nat → Int32 → Int32 → Int32 → eM → Prop) : Prop := e_ob M l0 12 ∧ (l6 < (8 + (gi M l0 32)) → w_Mod_merge_146 l0 l4 l5 l6 s0 M Q k83) ∧ (¬ l6 < (8 + (gi M l0 32)) → w_Mod_merge_146 l0 l4 l5 l6 0 M Q k83)
theorem b_Mod_merge_129 {d : Nat} {l0 : Nat} {l4 : Int32} {l5 : Int32} {l6 : Int32} {s0 : Int32} {M : eM} {Q : Int32 → eM → Prop} {k83 : Nat → Int32 → Int32 → Int32 → eM → Prop} (hd : 3 ≤ d) (hk83 : ∀ (l0 : Nat) (l4 : Int32) (l5 : Int32) (l6 : Int32) (M : eM), k83 l0 l4 l5 l6 M → e_E 170 d 0 0 83 [(0, .ref l0), (4, .int l4), (5, .int l5), (6, .int l6)] [] M (e_QI Q)) (h : w_Mod_merge_129 l0 l4 l5 l6 s0 M Q k83) : e_E 170 d 0 0 129 [(0, .ref l0), (4, .int l4), (5, .int l5), (6, .int l6)] [.int s0] M (e_QI Q) := by
  unfold w_Mod_merge_129 at h
  refine r_istore (kd170 rfl) L170 (by decide) rfl rfl ?_
  refine r_iload (kd170 rfl) rfl rfl ?_
  refine r_bipush (kd170 rfl) (y := 8) (by decide) rfl ?_
  refine r_aload_n (kd170 rfl) rfl rfl ?_
  obtain ⟨g, h⟩ := h
  refine r_get0 (kd170 rfl) (by decide) rfl g rfl ?_
  refine r_iadd (kd170 rfl) rfl ?_
  refine r_icmp_lt (kd170 rfl) rfl (fun c => ?_) (fun c => ?_)
  · have h := h.1 c
    exact (b_Mod_merge_146 hd hk83 h).less (e_sc (List.mem_of_getElem? (i := 1) rfl) (e_sc (List.mem_of_getElem? (i := 2) rfl) (e_sc (List.mem_of_getElem? (i := 3) rfl) (e_sc (List.mem_of_getElem? (i := 4) rfl) (e_sc (List.mem_of_getElem? (i := 0) rfl) e_sn)))))
  · have h := h.2 c
    refine r_iconst (kd170 rfl) (y := 0) (by decide) rfl ?_
    refine r_istore (kd170 rfl) L170 (by decide) rfl rfl ?_
    exact (b_Mod_merge_146 hd hk83 h).less (e_sc (List.mem_of_getElem? (i := 1) rfl) (e_sc (List.mem_of_getElem? (i := 2) rfl) (e_sc (List.mem_of_getElem? (i := 3) rfl) (e_sc (List.mem_of_getElem? (i := 4) rfl) (e_sc (List.mem_of_getElem? (i := 0) rfl) e_sn)))))
def w_Mod_merge_83 : Nat → Nat → Int32 → Int32 → Int32 → eM → (Int32 → eM → Prop) → Prop
  | 0, _, _, _, _, _, _ => False
  | n + 1, l0, l4, l5, l6, M, Q => (16 ≤ l6 → e_ob M l0 12 ∧ e_ob M l0 12 ∧ e_ar M (gr M l0 29) 20 l4 ∧ ∀ M2 : eM, M2 = e_si M (gr M l0 29) l4.toNatClampNeg (gi M l0 32) → (l5 = 0 ∨ l5 = 1) ∧ Q l5 M2) ∧ (¬ 16 ≤ l6 → (l5 = 0 → e_ob M l0 12 ∧ e_ai M (gr M l0 30) ((16 * l4) + l6) ∧ e_ob M l0 12 ∧ e_ai M (gr M l0 31) l6 ∧ e_ob M l0 12 ∧ w_Mod_joined l0 (gi M (gr M l0 30) ((16 * l4) + l6).toNatClampNeg) (gi M (gr M l0 31) l6.toNatClampNeg) M (fun (v4 : Int32) (M3 : eM) => w_Mod_merge_129 l0 l4 l5 l6 v4 M3 Q (fun l0 l4 l5 l6 M => w_Mod_merge_83 n l0 l4 l5 l6 M Q ))) ∧ (¬ l5 = 0 → e_ob M l0 12 ∧ e_ai M (gr M l0 31) l6 ∧ w_Mod_merge_129 l0 l4 l5 l6 (gi M (gr M l0 31) l6.toNatClampNeg) M Q (fun l0 l4 l5 l6 M => w_Mod_merge_83 n l0 l4 l5 l6 M Q )))
theorem b_Mod_merge_83 {d : Nat} {Q : Int32 → eM → Prop} (hd : 3 ≤ d) (n : Nat) : ∀ (l0 : Nat) (l4 : Int32) (l5 : Int32) (l6 : Int32) (M : eM), w_Mod_merge_83 n l0 l4 l5 l6 M Q → e_E 170 d 0 0 83 [(0, .ref l0), (4, .int l4), (5, .int l5), (6, .int l6)] [] M (e_QI Q) := by
  induction n with
  | zero => intro l0 l4 l5 l6 M h; exact False.elim h
  | succ n ih =>
    intro l0 l4 l5 l6 M h
    have hk83 := ih
    refine r_iload (kd170 rfl) rfl rfl ?_
    refine r_bipush (kd170 rfl) (y := 16) (by decide) rfl ?_
    refine r_icmp_ge (kd170 rfl) rfl (fun c => ?_) (fun c => ?_)
    · have h := h.1 c
      refine r_aload_n (kd170 rfl) rfl rfl ?_
      obtain ⟨g, h⟩ := h
      refine r_get2 (kd170 rfl) (by decide) rfl g rfl ?_
      refine r_iload (kd170 rfl) rfl rfl ?_
      refine r_aload_n (kd170 rfl) rfl rfl ?_
      obtain ⟨g, h⟩ := h
      refine r_get0 (kd170 rfl) (by decide) rfl g rfl ?_
      obtain ⟨g, h⟩ := h
      have h := h _ rfl
      refine r_iastore (kd170 rfl) g rfl ?_
      refine r_iload (kd170 rfl) rfl rfl ?_
      exact r_zreturn (kd170 rfl) R170 h.1 h.2
    · have h := h.2 c
      refine r_iload (kd170 rfl) rfl rfl ?_
      refine r_if_eq (kd170 rfl) rfl (fun c => ?_) (fun c => ?_)
      · have h := h.1 c
        refine r_aload_n (kd170 rfl) rfl rfl ?_
        refine r_aload_n (kd170 rfl) rfl rfl ?_
        obtain ⟨g, h⟩ := h
        refine r_get2 (kd170 rfl) (by decide) rfl g rfl ?_
        refine r_bipush (kd170 rfl) (y := 16) (by decide) rfl ?_
        refine r_iload (kd170 rfl) rfl rfl ?_
        refine r_imul (kd170 rfl) rfl ?_
        refine r_iload (kd170 rfl) rfl rfl ?_
        refine r_iadd (kd170 rfl) rfl ?_
        obtain ⟨g, h⟩ := h
        refine r_iaload (kd170 rfl) g rfl ?_
        refine r_aload_n (kd170 rfl) rfl rfl ?_
        obtain ⟨g, h⟩ := h
        refine r_get2 (kd170 rfl) (by decide) rfl g rfl ?_
        refine r_iload (kd170 rfl) rfl rfl ?_
        obtain ⟨g, h⟩ := h
        refine r_iaload (kd170 rfl) g rfl ?_
        obtain ⟨g, h⟩ := h
        refine r_callVI (d' := d - 1) (by omega) (kd170 rfl) (by decide) rfl rfl rfl rfl (Nat.le_of_ble_eq_true rfl) rfl L169 (Nat.le_of_ble_eq_true rfl) (Nat.le_of_ble_eq_true rfl) g (Nat.zero_le _) (Nat.zero_le _) rfl rfl rfl (b_Mod_joined (by omega) h) (fun x1 M1 h => ?_)
        exact (b_Mod_merge_129 hd hk83 h).less (e_sc (List.mem_of_getElem? (i := 0) rfl) (e_sc (List.mem_of_getElem? (i := 1) rfl) (e_sc (List.mem_of_getElem? (i := 2) rfl) (e_sc (List.mem_of_getElem? (i := 3) rfl) e_sn))))
      · have h := h.2 c
        refine r_aload_n (kd170 rfl) rfl rfl ?_
        obtain ⟨g, h⟩ := h
        refine r_get2 (kd170 rfl) (by decide) rfl g rfl ?_
        refine r_iload (kd170 rfl) rfl rfl ?_
        obtain ⟨g, h⟩ := h
        refine r_iaload (kd170 rfl) g rfl ?_
        refine r_goto (kd170 rfl) ?_
        exact (b_Mod_merge_129 hd hk83 h).less (e_sc (List.mem_of_getElem? (i := 0) rfl) (e_sc (List.mem_of_getElem? (i := 1) rfl) (e_sc (List.mem_of_getElem? (i := 2) rfl) (e_sc (List.mem_of_getElem? (i := 3) rfl) e_sn))))
def w_Mod_merge_78 (l0 : Nat) (l4 : Int32) (s0 : Int32) (M : eM) (Q : Int32 → eM → Prop) : Prop := ∃ n1 : Nat, w_Mod_merge_83 n1 l0 l4 s0 0 M Q
theorem b_Mod_merge_78 {d : Nat} {l0 : Nat} {l4 : Int32} {s0 : Int32} {M : eM} {Q : Int32 → eM → Prop} (hd : 3 ≤ d) (h : w_Mod_merge_78 l0 l4 s0 M Q ) : e_E 170 d 0 0 78 [(0, .ref l0), (4, .int l4)] [.int s0] M (e_QI Q) := by
  unfold w_Mod_merge_78 at h
  refine r_istore (kd170 rfl) L170 (by decide) rfl rfl ?_
  refine r_iconst (kd170 rfl) (y := 0) (by decide) rfl ?_
  refine r_istore (kd170 rfl) L170 (by decide) rfl rfl ?_
  obtain ⟨n, h⟩ := h
  exact (b_Mod_merge_83 hd n _ _ _ _ _ h).less (e_sc (List.mem_of_getElem? (i := 2) rfl) (e_sc (List.mem_of_getElem? (i := 3) rfl) (e_sc (List.mem_of_getElem? (i := 1) rfl) (e_sc (List.mem_of_getElem? (i := 0) rfl) e_sn))))
def w_Mod_merge_62 (l0 : Nat) (l4 : Int32) (M : eM) (Q : Int32 → eM → Prop) : Prop := e_ob M l0 12 ∧ e_ai M (gr M l0 29) l4 ∧ (¬ (gi M (gr M l0 29) l4.toNatClampNeg) = (-1) → w_Mod_merge_78 l0 l4 0 M Q) ∧ ((gi M (gr M l0 29) l4.toNatClampNeg) = (-1) → w_Mod_merge_78 l0 l4 1 M Q)
theorem b_Mod_merge_62 {d : Nat} {l0 : Nat} {l4 : Int32} {M : eM} {Q : Int32 → eM → Prop} (hd : 3 ≤ d) (h : w_Mod_merge_62 l0 l4 M Q ) : e_E 170 d 0 0 62 [(0, .ref l0), (4, .int l4)] [] M (e_QI Q) := by
  unfold w_Mod_merge_62 at h
  refine r_aload_n (kd170 rfl) rfl rfl ?_
  obtain ⟨g, h⟩ := h
  refine r_get2 (kd170 rfl) (by decide) rfl g rfl ?_
  refine r_iload (kd170 rfl) rfl rfl ?_
  obtain ⟨g, h⟩ := h
  refine r_iaload (kd170 rfl) g rfl ?_
  refine r_iconst (kd170 rfl) (y := (-1)) (by decide) rfl ?_
  refine r_icmp_ne (kd170 rfl) rfl (fun c => ?_) (fun c => ?_)
  · have h := h.1 c
    refine r_iconst (kd170 rfl) (y := 0) (by decide) rfl ?_
    exact (b_Mod_merge_78 hd h).less (e_sc (List.mem_of_getElem? (i := 0) rfl) (e_sc (List.mem_of_getElem? (i := 1) rfl) e_sn))
  · have h := h.2 c
    refine r_iconst (kd170 rfl) (y := 1) (by decide) rfl ?_
    refine r_goto (kd170 rfl) ?_
    exact (b_Mod_merge_78 hd h).less (e_sc (List.mem_of_getElem? (i := 0) rfl) (e_sc (List.mem_of_getElem? (i := 1) rfl) e_sn))
def w_Mod_merge (l0 : Nat) (l1 : Int32) (l2 : Int32) (l3 : Int32) (M : eM) (Q : Int32 → eM → Prop) : Prop := e_ob M l0 12 ∧ e_ai M (gr M l0 29) ((120 * l1) + l2) ∧ (¬ (gi M (gr M l0 29) ((120 * l1) + l2).toNatClampNeg) = (-2) → (¬ l3 = 0 → w_Mod_merge_51 l0 ((120 * l1) + l2) M Q) ∧ (l3 = 0 → e_ob M l0 12 ∧ e_ai M (gr M l0 29) ((120 * l1) + l2) ∧ ((gi M (gr M l0 29) ((120 * l1) + l2).toNatClampNeg) = (-1) → w_Mod_merge_62 l0 ((120 * l1) + l2) M Q) ∧ (¬ (gi M (gr M l0 29) ((120 * l1) + l2).toNatClampNeg) = (-1) → e_ob M l0 12 ∧ e_ai M (gr M l0 29) ((120 * l1) + l2) ∧ e_ob M l0 12 ∧ ((gi M (gr M l0 29) ((120 * l1) + l2).toNatClampNeg) = (gi M l0 32) → w_Mod_merge_62 l0 ((120 * l1) + l2) M Q) ∧ (¬ (gi M (gr M l0 29) ((120 * l1) + l2).toNatClampNeg) = (gi M l0 32) → w_Mod_merge_51 l0 ((120 * l1) + l2) M Q)))) ∧ ((gi M (gr M l0 29) ((120 * l1) + l2).toNatClampNeg) = (-2) → ((0 : Int32) = 0 ∨ (0 : Int32) = 1) ∧ Q (0 : Int32) M)
theorem b_Mod_merge {d : Nat} {l0 : Nat} {l1 : Int32} {l2 : Int32} {l3 : Int32} {M : eM} {Q : Int32 → eM → Prop} (hd : 3 ≤ d) (h : w_Mod_merge l0 l1 l2 l3 M Q) : e_CI 170 d 0 0 [.ref l0, .int l1, .int l2, .int l3] M Q := by
  unfold w_Mod_merge at h
  show e_E 170 d 0 0 0 [(0, .ref l0), (1, .int l1), (2, .int l2), (3, .int l3)] [] M (e_QI Q)
  refine r_bipush (kd170 rfl) (y := 120) (by decide) rfl ?_
  refine r_iload_n (kd170 rfl) rfl rfl ?_
  refine r_imul (kd170 rfl) rfl ?_
  refine r_iload_n (kd170 rfl) rfl rfl ?_
  refine r_iadd (kd170 rfl) rfl ?_
  refine r_istore (kd170 rfl) L170 (by decide) rfl rfl ?_
  refine r_aload_n (kd170 rfl) rfl rfl ?_
  obtain ⟨g, h⟩ := h
  refine r_get2 (kd170 rfl) (by decide) rfl g rfl ?_
  refine r_iload (kd170 rfl) rfl rfl ?_
  obtain ⟨g, h⟩ := h
  refine r_iaload (kd170 rfl) g rfl ?_
  refine r_bipush (kd170 rfl) (y := (-2)) (by decide) rfl ?_
  refine r_icmp_ne (kd170 rfl) rfl (fun c => ?_) (fun c => ?_)
  · have h := h.1 c
    refine r_iload_n (kd170 rfl) rfl rfl ?_
    refine r_if_ne (kd170 rfl) rfl (fun c => ?_) (fun c => ?_)
    · have h := h.1 c
      exact (b_Mod_merge_51 hd h).less (e_sc (List.mem_of_getElem? (i := 1) rfl) (e_sc (List.mem_of_getElem? (i := 0) rfl) e_sn))
    · have h := h.2 c
      refine r_aload_n (kd170 rfl) rfl rfl ?_
      obtain ⟨g, h⟩ := h
      refine r_get2 (kd170 rfl) (by decide) rfl g rfl ?_
      refine r_iload (kd170 rfl) rfl rfl ?_
      obtain ⟨g, h⟩ := h
      refine r_iaload (kd170 rfl) g rfl ?_
      refine r_iconst (kd170 rfl) (y := (-1)) (by decide) rfl ?_
      refine r_icmp_eq (kd170 rfl) rfl (fun c => ?_) (fun c => ?_)
      · have h := h.1 c
        exact (b_Mod_merge_62 hd h).less (e_sc (List.mem_of_getElem? (i := 1) rfl) (e_sc (List.mem_of_getElem? (i := 0) rfl) e_sn))
      · have h := h.2 c
        refine r_aload_n (kd170 rfl) rfl rfl ?_
        obtain ⟨g, h⟩ := h
        refine r_get2 (kd170 rfl) (by decide) rfl g rfl ?_
        refine r_iload (kd170 rfl) rfl rfl ?_
        obtain ⟨g, h⟩ := h
        refine r_iaload (kd170 rfl) g rfl ?_
        refine r_aload_n (kd170 rfl) rfl rfl ?_
        obtain ⟨g, h⟩ := h
        refine r_get0 (kd170 rfl) (by decide) rfl g rfl ?_
        refine r_icmp_eq (kd170 rfl) rfl (fun c => ?_) (fun c => ?_)
        · have h := h.1 c
          exact (b_Mod_merge_62 hd h).less (e_sc (List.mem_of_getElem? (i := 1) rfl) (e_sc (List.mem_of_getElem? (i := 0) rfl) e_sn))
        · have h := h.2 c
          exact (b_Mod_merge_51 hd h).less (e_sc (List.mem_of_getElem? (i := 1) rfl) (e_sc (List.mem_of_getElem? (i := 0) rfl) e_sn))
  · have h := h.2 c
    refine r_iconst (kd170 rfl) (y := 0) (by decide) rfl ?_
    exact r_zreturn (kd170 rfl) R170 h.1 h.2
/-- TierMillModel.pushKind(I)V -/
theorem kd174 {pc : Nat} {q : eI} (h : e_d174.lookup pc = some q) : e_dec 174 pc = some q := h
theorem L174 : (e_m 174).2.2.1 = 2 := rfl
theorem R174 : (e_m 174).2.2.2.1 = none := rfl
def w_Mod_pushKind_22 (l0 : Nat) (M : eM) (Q : eM → Prop) : Prop := e_ob M l0 12 ∧ e_ob M l0 12 ∧ ∀ M2 : eM, M2 = e_si M l0 32 ((gi M l0 32) + 1) → Q M2
theorem b_Mod_pushKind_22 {d : Nat} {l0 : Nat} {M : eM} {Q : eM → Prop} (hd : 0 ≤ d) (h : w_Mod_pushKind_22 l0 M Q ) : e_E 174 d 0 0 22 [(0, .ref l0)] [] M (e_QV Q) := by
  unfold w_Mod_pushKind_22 at h
  refine r_aload_n (kd174 rfl) rfl rfl ?_
  refine r_dup (kd174 rfl) rfl rfl ?_
  obtain ⟨g, h⟩ := h
  refine r_get0 (kd174 rfl) (by decide) rfl g rfl ?_
  refine r_iconst (kd174 rfl) (y := 1) (by decide) rfl ?_
  refine r_iadd (kd174 rfl) rfl ?_
  obtain ⟨g, h⟩ := h
  have h := h _ rfl
  refine r_put0 (kd174 rfl) (by decide) rfl g rfl ?_
  exact r_return (kd174 rfl) R174 h
def w_Mod_pushKind (l0 : Nat) (l1 : Int32) (M : eM) (Q : eM → Prop) : Prop := e_ob M l0 12 ∧ (8 ≤ (gi M l0 32) → w_Mod_pushKind_22 l0 M Q) ∧ (¬ 8 ≤ (gi M l0 32) → e_ob M l0 12 ∧ e_ob M l0 12 ∧ e_ar M (gr M l0 31) 20 (8 + (gi M l0 32)) ∧ ∀ M1 : eM, M1 = e_si M (gr M l0 31) (8 + (gi M l0 32)).toNatClampNeg l1 → w_Mod_pushKind_22 l0 M1 Q)
theorem b_Mod_pushKind {d : Nat} {l0 : Nat} {l1 : Int32} {M : eM} {Q : eM → Prop} (hd : 0 ≤ d) (h : w_Mod_pushKind l0 l1 M Q) : e_CV 174 d 0 0 [.ref l0, .int l1] M Q := by
  unfold w_Mod_pushKind at h
  show e_E 174 d 0 0 0 [(0, .ref l0), (1, .int l1)] [] M (e_QV Q)
  refine r_aload_n (kd174 rfl) rfl rfl ?_
  obtain ⟨g, h⟩ := h
  refine r_get0 (kd174 rfl) (by decide) rfl g rfl ?_
  refine r_bipush (kd174 rfl) (y := 8) (by decide) rfl ?_
  refine r_icmp_ge (kd174 rfl) rfl (fun c => ?_) (fun c => ?_)
  · have h := h.1 c
    exact (b_Mod_pushKind_22 hd h).less (e_sc (List.mem_of_getElem? (i := 0) rfl) e_sn)
  · have h := h.2 c
    refine r_aload_n (kd174 rfl) rfl rfl ?_
    obtain ⟨g, h⟩ := h
    refine r_get2 (kd174 rfl) (by decide) rfl g rfl ?_
    refine r_bipush (kd174 rfl) (y := 8) (by decide) rfl ?_
    refine r_aload_n (kd174 rfl) rfl rfl ?_
    obtain ⟨g, h⟩ := h
    refine r_get0 (kd174 rfl) (by decide) rfl g rfl ?_
    refine r_iadd (kd174 rfl) rfl ?_
    refine r_iload_n (kd174 rfl) rfl rfl ?_
    obtain ⟨g, h⟩ := h
    have h := h _ rfl
    refine r_iastore (kd174 rfl) g rfl ?_
    exact (b_Mod_pushKind_22 hd h).less (e_sc (List.mem_of_getElem? (i := 0) rfl) e_sn)
/-- TierMillModel.popKind()I -/
theorem kd173 {pc : Nat} {q : eI} (h : e_d173.lookup pc = some q) : e_dec 173 pc = some q := h
theorem L173 : (e_m 173).2.2.1 = 1 := rfl
theorem R173 : (e_m 173).2.2.2.1 = (some .int) := rfl
def w_Mod_popKind (l0 : Nat) (M : eM) (Q : Int32 → eM → Prop) : Prop := e_ob M l0 12 ∧ (¬ (gi M l0 32) = 0 → e_ob M l0 12 ∧ e_ob M l0 12 ∧ ∀ M1 : eM, M1 = e_si M l0 32 ((gi M l0 32) - 1) → e_ob M1 l0 12 ∧ e_ob M1 l0 12 ∧ e_ai M1 (gr M1 l0 31) (8 + (gi M1 l0 32)) ∧ Q (gi M1 (gr M1 l0 31) (8 + (gi M1 l0 32)).toNatClampNeg) M1) ∧ ((gi M l0 32) = 0 → e_ob M l0 12 ∧ ((1 : Int32) = 0 ∨ (1 : Int32) = 1) ∧ ∀ M2 : eM, M2 = e_si M l0 33 (1 : Int32) → Q (0 : Int32) M2)
theorem b_Mod_popKind {d : Nat} {l0 : Nat} {M : eM} {Q : Int32 → eM → Prop} (hd : 0 ≤ d) (h : w_Mod_popKind l0 M Q) : e_CI 173 d 0 0 [.ref l0] M Q := by
  unfold w_Mod_popKind at h
  show e_E 173 d 0 0 0 [(0, .ref l0)] [] M (e_QI Q)
  refine r_aload_n (kd173 rfl) rfl rfl ?_
  obtain ⟨g, h⟩ := h
  refine r_get0 (kd173 rfl) (by decide) rfl g rfl ?_
  refine r_if_ne (kd173 rfl) rfl (fun c => ?_) (fun c => ?_)
  · have h := h.1 c
    refine r_aload_n (kd173 rfl) rfl rfl ?_
    refine r_dup (kd173 rfl) rfl rfl ?_
    obtain ⟨g, h⟩ := h
    refine r_get0 (kd173 rfl) (by decide) rfl g rfl ?_
    refine r_iconst (kd173 rfl) (y := 1) (by decide) rfl ?_
    refine r_isub (kd173 rfl) rfl ?_
    obtain ⟨g, h⟩ := h
    have h := h _ rfl
    refine r_put0 (kd173 rfl) (by decide) rfl g rfl ?_
    refine r_aload_n (kd173 rfl) rfl rfl ?_
    obtain ⟨g, h⟩ := h
    refine r_get2 (kd173 rfl) (by decide) rfl g rfl ?_
    refine r_bipush (kd173 rfl) (y := 8) (by decide) rfl ?_
    refine r_aload_n (kd173 rfl) rfl rfl ?_
    obtain ⟨g, h⟩ := h
    refine r_get0 (kd173 rfl) (by decide) rfl g rfl ?_
    refine r_iadd (kd173 rfl) rfl ?_
    obtain ⟨g, h⟩ := h
    refine r_iaload (kd173 rfl) g rfl ?_
    exact r_ireturn (kd173 rfl) R173 h
  · have h := h.2 c
    refine r_aload_n (kd173 rfl) rfl rfl ?_
    refine r_iconst (kd173 rfl) (y := 1) (by decide) rfl ?_
    obtain ⟨g, h⟩ := h
    obtain ⟨gb, h⟩ := h
    have h := h _ rfl
    refine r_put3 (kd173 rfl) (by decide) rfl g gb rfl ?_
    refine r_iconst (kd173 rfl) (y := 0) (by decide) rfl ?_
    exact r_ireturn (kd173 rfl) R173 h
/-- TierMillModel.drop(I)V -/
theorem kd175 {pc : Nat} {q : eI} (h : e_d175.lookup pc = some q) : e_dec 175 pc = some q := h
theorem L175 : (e_m 175).2.2.1 = 3 := rfl
theorem R175 : (e_m 175).2.2.2.1 = none := rfl
def w_Mod_drop_2 : Nat → Nat → Int32 → Int32 → eM → (eM → Prop) → Prop
  | 0, _, _, _, _, _ => False
  | n + 1, l0, l1, l2, M, Q => (l1 ≤ l2 → Q M) ∧ (¬ l1 ≤ l2 → e_ob M l0 12 ∧ w_Mod_popKind l0 M (fun (v3 : Int32) (M2 : eM) => (fun l0 l1 l2 M => w_Mod_drop_2 n l0 l1 l2 M Q ) l0 l1 (l2 + 1) M2))
theorem b_Mod_drop_2 {d : Nat} {Q : eM → Prop} (hd : 1 ≤ d) (n : Nat) : ∀ (l0 : Nat) (l1 : Int32) (l2 : Int32) (M : eM), w_Mod_drop_2 n l0 l1 l2 M Q → e_E 175 d 0 0 2 [(0, .ref l0), (1, .int l1), (2, .int l2)] [] M (e_QV Q) := by
  induction n with
  | zero => intro l0 l1 l2 M h; exact False.elim h
  | succ n ih =>
    intro l0 l1 l2 M h
    have hk2 := ih
    refine r_iload_n (kd175 rfl) rfl rfl ?_
    refine r_iload_n (kd175 rfl) rfl rfl ?_
    refine r_icmp_ge (kd175 rfl) rfl (fun c => ?_) (fun c => ?_)
    · have h := h.1 c
      exact r_return (kd175 rfl) R175 h
    · have h := h.2 c
      refine r_aload_n (kd175 rfl) rfl rfl ?_
      obtain ⟨g, h⟩ := h
      refine r_callVI (d' := d - 1) (by omega) (kd175 rfl) (by decide) rfl rfl rfl rfl (Nat.le_of_ble_eq_true rfl) rfl L173 (Nat.le_of_ble_eq_true rfl) (Nat.le_of_ble_eq_true rfl) g (Nat.zero_le _) (Nat.zero_le _) rfl rfl rfl (b_Mod_popKind (by omega) h) (fun x1 M1 h => ?_)
      refine r_pop (kd175 rfl) rfl rfl ?_
      refine r_iinc (kd175 rfl) rfl (y := 1) (by decide) L175 (by decide) rfl rfl ?_
      refine r_goto (kd175 rfl) ?_
      exact (hk2 _ _ _ _ h).less (e_sc (List.mem_of_getElem? (i := 1) rfl) (e_sc (List.mem_of_getElem? (i := 2) rfl) (e_sc (List.mem_of_getElem? (i := 0) rfl) e_sn)))
def w_Mod_drop (l0 : Nat) (l1 : Int32) (M : eM) (Q : eM → Prop) : Prop := ∃ n1 : Nat, w_Mod_drop_2 n1 l0 l1 0 M Q
theorem b_Mod_drop {d : Nat} {l0 : Nat} {l1 : Int32} {M : eM} {Q : eM → Prop} (hd : 1 ≤ d) (h : w_Mod_drop l0 l1 M Q) : e_CV 175 d 0 0 [.ref l0, .int l1] M Q := by
  unfold w_Mod_drop at h
  show e_E 175 d 0 0 0 [(0, .ref l0), (1, .int l1)] [] M (e_QV Q)
  refine r_iconst (kd175 rfl) (y := 0) (by decide) rfl ?_
  refine r_istore_n (kd175 rfl) L175 (by decide) rfl rfl ?_
  obtain ⟨n, h⟩ := h
  exact (b_Mod_drop_2 hd n _ _ _ _ h).less (e_sc (List.mem_of_getElem? (i := 1) rfl) (e_sc (List.mem_of_getElem? (i := 2) rfl) (e_sc (List.mem_of_getElem? (i := 0) rfl) e_sn)))
/-- TierMillModel.takes(II)I -/
theorem kd176 {pc : Nat} {q : eI} (h : e_d176.lookup pc = some q) : e_dec 176 pc = some q := h
theorem L176 : (e_m 176).2.2.1 = 4 := rfl
theorem R176 : (e_m 176).2.2.2.1 = (some .int) := rfl
def w_Mod_takes_224 (M : eM) (Q : Int32 → eM → Prop) : Prop := Q (1 : Int32) M
theorem b_Mod_takes_224 {d : Nat} {M : eM} {Q : Int32 → eM → Prop} (hd : 1 ≤ d) (h : w_Mod_takes_224 M Q ) : e_E 176 d 0 0 224 [] [] M (e_QI Q) := by
  unfold w_Mod_takes_224 at h
  refine r_iconst (kd176 rfl) (y := 1) (by decide) rfl ?_
  exact r_ireturn (kd176 rfl) R176 h
def w_Mod_takes_226 (M : eM) (Q : Int32 → eM → Prop) : Prop := Q (2 : Int32) M
theorem b_Mod_takes_226 {d : Nat} {M : eM} {Q : Int32 → eM → Prop} (hd : 1 ≤ d) (h : w_Mod_takes_226 M Q ) : e_E 176 d 0 0 226 [] [] M (e_QI Q) := by
  unfold w_Mod_takes_226 at h
  refine r_iconst (kd176 rfl) (y := 2) (by decide) rfl ?_
  exact r_ireturn (kd176 rfl) R176 h
def w_Mod_takes_305 (s0 : Int32) (M : eM) (Q : Int32 → eM → Prop) : Prop := Q s0 M
theorem b_Mod_takes_305 {d : Nat} {s0 : Int32} {M : eM} {Q : Int32 → eM → Prop} (hd : 1 ≤ d) (h : w_Mod_takes_305 s0 M Q ) : e_E 176 d 0 0 305 [] [.int s0] M (e_QI Q) := by
  unfold w_Mod_takes_305 at h
  exact r_ireturn (kd176 rfl) R176 h
def w_Mod_takes_284 (M : eM) (Q : Int32 → eM → Prop) : Prop := w_Mod_takes_305 2 M Q
theorem b_Mod_takes_284 {d : Nat} {M : eM} {Q : Int32 → eM → Prop} (hd : 1 ≤ d) (h : w_Mod_takes_284 M Q ) : e_E 176 d 0 0 284 [] [] M (e_QI Q) := by
  unfold w_Mod_takes_284 at h
  refine r_iconst (kd176 rfl) (y := 2) (by decide) rfl ?_
  refine r_goto (kd176 rfl) ?_
  exact (b_Mod_takes_305 hd h).less e_sn
def w_Mod_takes_304 (M : eM) (Q : Int32 → eM → Prop) : Prop := w_Mod_takes_305 0 M Q
theorem b_Mod_takes_304 {d : Nat} {M : eM} {Q : Int32 → eM → Prop} (hd : 1 ≤ d) (h : w_Mod_takes_304 M Q ) : e_E 176 d 0 0 304 [] [] M (e_QI Q) := by
  unfold w_Mod_takes_304 at h
  refine r_iconst (kd176 rfl) (y := 0) (by decide) rfl ?_
  exact (b_Mod_takes_305 hd h).less e_sn
def w_Mod_takes_288 (l3 : Int32) (M : eM) (Q : Int32 → eM → Prop) : Prop := (l3 < 22 → w_Mod_takes_304 M Q) ∧ (¬ l3 < 22 → (27 < l3 → w_Mod_takes_304 M Q) ∧ (¬ 27 < l3 → w_Mod_takes_305 1 M Q))
theorem b_Mod_takes_288 {d : Nat} {l3 : Int32} {M : eM} {Q : Int32 → eM → Prop} (hd : 1 ≤ d) (h : w_Mod_takes_288 l3 M Q ) : e_E 176 d 0 0 288 [(3, .int l3)] [] M (e_QI Q) := by
  unfold w_Mod_takes_288 at h
  refine r_iload_n (kd176 rfl) rfl rfl ?_
  refine r_bipush (kd176 rfl) (y := 22) (by decide) rfl ?_
  refine r_icmp_lt (kd176 rfl) rfl (fun c => ?_) (fun c => ?_)
  · have h := h.1 c
    exact (b_Mod_takes_304 hd h).less e_sn
  · have h := h.2 c
    refine r_iload_n (kd176 rfl) rfl rfl ?_
    refine r_bipush (kd176 rfl) (y := 27) (by decide) rfl ?_
    refine r_icmp_gt (kd176 rfl) rfl (fun c => ?_) (fun c => ?_)
    · have h := h.1 c
      exact (b_Mod_takes_304 hd h).less e_sn
    · have h := h.2 c
      refine r_iconst (kd176 rfl) (y := 1) (by decide) rfl ?_
      refine r_goto (kd176 rfl) ?_
      exact (b_Mod_takes_305 hd h).less e_sn
def w_Mod_takes_272 (l3 : Int32) (M : eM) (Q : Int32 → eM → Prop) : Prop := (l3 < 28 → w_Mod_takes_288 l3 M Q) ∧ (¬ l3 < 28 → (33 < l3 → w_Mod_takes_288 l3 M Q) ∧ (¬ 33 < l3 → w_Mod_takes_284 M Q))
theorem b_Mod_takes_272 {d : Nat} {l3 : Int32} {M : eM} {Q : Int32 → eM → Prop} (hd : 1 ≤ d) (h : w_Mod_takes_272 l3 M Q ) : e_E 176 d 0 0 272 [(3, .int l3)] [] M (e_QI Q) := by
  unfold w_Mod_takes_272 at h
  refine r_iload_n (kd176 rfl) rfl rfl ?_
  refine r_bipush (kd176 rfl) (y := 28) (by decide) rfl ?_
  refine r_icmp_lt (kd176 rfl) rfl (fun c => ?_) (fun c => ?_)
  · have h := h.1 c
    exact (b_Mod_takes_288 hd h).less (e_sc (List.mem_of_getElem? (i := 0) rfl) e_sn)
  · have h := h.2 c
    refine r_iload_n (kd176 rfl) rfl rfl ?_
    refine r_bipush (kd176 rfl) (y := 33) (by decide) rfl ?_
    refine r_icmp_gt (kd176 rfl) rfl (fun c => ?_) (fun c => ?_)
    · have h := h.1 c
      exact (b_Mod_takes_288 hd h).less (e_sc (List.mem_of_getElem? (i := 0) rfl) e_sn)
    · have h := h.2 c
      exact (b_Mod_takes_284 hd h).less e_sn
def w_Mod_takes_260 (l3 : Int32) (M : eM) (Q : Int32 → eM → Prop) : Prop := (l3 < 8 → w_Mod_takes_272 l3 M Q) ∧ (¬ l3 < 8 → (l3 ≤ 18 → w_Mod_takes_284 M Q) ∧ (¬ l3 ≤ 18 → w_Mod_takes_272 l3 M Q))
theorem b_Mod_takes_260 {d : Nat} {l3 : Int32} {M : eM} {Q : Int32 → eM → Prop} (hd : 1 ≤ d) (h : w_Mod_takes_260 l3 M Q ) : e_E 176 d 0 0 260 [(3, .int l3)] [] M (e_QI Q) := by
  unfold w_Mod_takes_260 at h
  refine r_iload_n (kd176 rfl) rfl rfl ?_
  refine r_bipush (kd176 rfl) (y := 8) (by decide) rfl ?_
  refine r_icmp_lt (kd176 rfl) rfl (fun c => ?_) (fun c => ?_)
  · have h := h.1 c
    exact (b_Mod_takes_272 hd h).less (e_sc (List.mem_of_getElem? (i := 0) rfl) e_sn)
  · have h := h.2 c
    refine r_iload_n (kd176 rfl) rfl rfl ?_
    refine r_bipush (kd176 rfl) (y := 18) (by decide) rfl ?_
    refine r_icmp_le (kd176 rfl) rfl (fun c => ?_) (fun c => ?_)
    · have h := h.1 c
      exact (b_Mod_takes_284 hd h).less e_sn
    · have h := h.2 c
      exact (b_Mod_takes_272 hd h).less (e_sc (List.mem_of_getElem? (i := 0) rfl) e_sn)
def w_Mod_takes (l0 : Nat) (l1 : Int32) (l2 : Int32) (M : eM) (Q : Int32 → eM → Prop) : Prop := e_ob M l0 12 ∧ w_Mod_byteAt l0 l1 l2 M (fun (v2 : Int32) (M1 : eM) => (v2 = 4 → w_Mod_takes_224 M1 Q) ∧ (¬ v2 = 4 → (v2 = 5 → w_Mod_takes_224 M1 Q) ∧ (¬ v2 = 5 → (v2 = 6 → w_Mod_takes_224 M1 Q) ∧ (¬ v2 = 6 → (v2 = 7 → w_Mod_takes_226 M1 Q) ∧ (¬ v2 = 7 → (v2 = 8 → w_Mod_takes_260 v2 M1 Q) ∧ (¬ v2 = 8 → (v2 = 9 → w_Mod_takes_260 v2 M1 Q) ∧ (¬ v2 = 9 → (v2 = 10 → w_Mod_takes_260 v2 M1 Q) ∧ (¬ v2 = 10 → (v2 = 11 → w_Mod_takes_260 v2 M1 Q) ∧ (¬ v2 = 11 → (v2 = 12 → w_Mod_takes_260 v2 M1 Q) ∧ (¬ v2 = 12 → (v2 = 13 → w_Mod_takes_260 v2 M1 Q) ∧ (¬ v2 = 13 → (v2 = 14 → w_Mod_takes_260 v2 M1 Q) ∧ (¬ v2 = 14 → (v2 = 15 → w_Mod_takes_260 v2 M1 Q) ∧ (¬ v2 = 15 → (v2 = 16 → w_Mod_takes_260 v2 M1 Q) ∧ (¬ v2 = 16 → (v2 = 17 → w_Mod_takes_260 v2 M1 Q) ∧ (¬ v2 = 17 → (v2 = 18 → w_Mod_takes_260 v2 M1 Q) ∧ (¬ v2 = 18 → (v2 = 19 → w_Mod_takes_224 M1 Q) ∧ (¬ v2 = 19 → (v2 = 20 → w_Mod_takes_260 v2 M1 Q) ∧ (¬ v2 = 20 → (v2 = 21 → w_Mod_takes_260 v2 M1 Q) ∧ (¬ v2 = 21 → (v2 = 22 → w_Mod_takes_260 v2 M1 Q) ∧ (¬ v2 = 22 → (v2 = 23 → w_Mod_takes_260 v2 M1 Q) ∧ (¬ v2 = 23 → (v2 = 24 → w_Mod_takes_260 v2 M1 Q) ∧ (¬ v2 = 24 → (v2 = 25 → w_Mod_takes_260 v2 M1 Q) ∧ (¬ v2 = 25 → (v2 = 26 → w_Mod_takes_260 v2 M1 Q) ∧ (¬ v2 = 26 → (v2 = 27 → w_Mod_takes_260 v2 M1 Q) ∧ (¬ v2 = 27 → (v2 = 28 → w_Mod_takes_260 v2 M1 Q) ∧ (¬ v2 = 28 → (v2 = 29 → w_Mod_takes_260 v2 M1 Q) ∧ (¬ v2 = 29 → (v2 = 30 → w_Mod_takes_260 v2 M1 Q) ∧ (¬ v2 = 30 → (v2 = 31 → w_Mod_takes_260 v2 M1 Q) ∧ (¬ v2 = 31 → (v2 = 32 → w_Mod_takes_260 v2 M1 Q) ∧ (¬ v2 = 32 → (v2 = 33 → w_Mod_takes_260 v2 M1 Q) ∧ (¬ v2 = 33 → (v2 = 34 → w_Mod_takes_224 M1 Q) ∧ (¬ v2 = 34 → (v2 = 35 → w_Mod_takes_224 M1 Q) ∧ (¬ v2 = 35 → (v2 = 36 → w_Mod_takes_226 M1 Q) ∧ (¬ v2 = 36 → (v2 = 37 → w_Mod_takes_226 M1 Q) ∧ (¬ v2 = 37 → (v2 = 38 → w_Mod_takes_260 v2 M1 Q) ∧ (¬ v2 = 38 → (v2 = 39 → w_Mod_takes_224 M1 Q) ∧ (¬ v2 = 39 → (v2 = 40 → w_Mod_takes_226 M1 Q) ∧ (¬ v2 = 40 → (v2 = 41 → w_Mod_takes_224 M1 Q) ∧ (¬ v2 = 41 → (v2 = 42 → w_Mod_takes_226 M1 Q) ∧ (¬ v2 = 42 → (v2 = 43 → Q (3 : Int32) M1) ∧ (¬ v2 = 43 → (v2 = 44 → w_Mod_takes_224 M1 Q) ∧ (¬ v2 = 44 → (v2 = 45 → w_Mod_takes_224 M1 Q) ∧ (¬ v2 = 45 → (v2 = 46 → w_Mod_takes_224 M1 Q) ∧ (¬ v2 = 46 → (v2 = 47 → e_ob M1 l0 12 ∧ e_ob M1 l0 12 ∧ w_Mod_byteAt l0 l1 (l2 + 1) M1 (fun (v4 : Int32) (M3 : eM) => e_ai M3 (gr M1 l0 20) v4 ∧ Q (gi M3 (gr M1 l0 20) v4.toNatClampNeg) M3)) ∧ (¬ v2 = 47 → (v2 = 48 → e_ob M1 l0 12 ∧ e_ob M1 l0 12 ∧ w_Mod_byteAt l0 l1 (l2 + 1) M1 (fun (v6 : Int32) (M5 : eM) => e_ai M5 (gr M1 l0 16) v6 ∧ Q (1 + (gi M5 (gr M1 l0 16) v6.toNatClampNeg)) M5)) ∧ (¬ v2 = 48 → (v2 = 49 → w_Mod_takes_260 v2 M1 Q) ∧ (¬ v2 = 49 → (v2 = 50 → w_Mod_takes_224 M1 Q) ∧ (¬ v2 = 50 → (v2 = 51 → w_Mod_takes_224 M1 Q) ∧ (¬ v2 = 51 → (v2 = 52 → w_Mod_takes_260 v2 M1 Q) ∧ (¬ v2 = 52 → (v2 = 53 → w_Mod_takes_224 M1 Q) ∧ (¬ v2 = 53 → w_Mod_takes_260 v2 M1 Q)))))))))))))))))))))))))))))))))))))))))))))))))))
theorem b_Mod_takes {d : Nat} {l0 : Nat} {l1 : Int32} {l2 : Int32} {M : eM} {Q : Int32 → eM → Prop} (hd : 1 ≤ d) (h : w_Mod_takes l0 l1 l2 M Q) : e_CI 176 d 0 0 [.ref l0, .int l1, .int l2] M Q := by
  unfold w_Mod_takes at h
  show e_E 176 d 0 0 0 [(0, .ref l0), (1, .int l1), (2, .int l2)] [] M (e_QI Q)
  refine r_aload_n (kd176 rfl) rfl rfl ?_
  refine r_iload_n (kd176 rfl) rfl rfl ?_
  refine r_iload_n (kd176 rfl) rfl rfl ?_
  obtain ⟨g, h⟩ := h
  refine r_callVI (d' := d - 1) (by omega) (kd176 rfl) (by decide) rfl rfl rfl rfl (Nat.le_of_ble_eq_true rfl) rfl L158 (Nat.le_of_ble_eq_true rfl) (Nat.le_of_ble_eq_true rfl) g (Nat.zero_le _) (Nat.zero_le _) rfl rfl rfl (b_Mod_byteAt (by omega) h) (fun x1 M1 h => ?_)
  refine r_istore_n (kd176 rfl) L176 (by decide) rfl rfl ?_
  refine r_iload_n (kd176 rfl) rfl rfl ?_
  refine r_tableswitch (kd176 rfl) (u := 260) (qs := [(4, 224), (5, 224), (6, 224), (7, 226), (8, 260), (9, 260), (10, 260), (11, 260), (12, 260), (13, 260), (14, 260), (15, 260), (16, 260), (17, 260), (18, 260), (19, 224), (20, 260), (21, 260), (22, 260), (23, 260), (24, 260), (25, 260), (26, 260), (27, 260), (28, 260), (29, 260), (30, 260), (31, 260), (32, 260), (33, 260), (34, 224), (35, 224), (36, 226), (37, 226), (38, 260), (39, 224), (40, 226), (41, 224), (42, 226), (43, 228), (44, 224), (45, 224), (46, 224), (47, 230), (48, 244), (49, 260), (50, 224), (51, 224), (52, 260), (53, 224)]) rfl rfl rfl (by decide) ?_
  refine ⟨fun c => ?_, fun c => ?_⟩
  · have h := h.1 c
    exact (b_Mod_takes_224 hd h).less e_sn
  have h := h.2 c
  refine ⟨fun c => ?_, fun c => ?_⟩
  · have h := h.1 c
    exact (b_Mod_takes_224 hd h).less e_sn
  have h := h.2 c
  refine ⟨fun c => ?_, fun c => ?_⟩
  · have h := h.1 c
    exact (b_Mod_takes_224 hd h).less e_sn
  have h := h.2 c
  refine ⟨fun c => ?_, fun c => ?_⟩
  · have h := h.1 c
    exact (b_Mod_takes_226 hd h).less e_sn
  have h := h.2 c
  refine ⟨fun c => ?_, fun c => ?_⟩
  · have h := h.1 c
    exact (b_Mod_takes_260 hd h).less (e_sc (List.mem_of_getElem? (i := 0) rfl) e_sn)
  have h := h.2 c
  refine ⟨fun c => ?_, fun c => ?_⟩
  · have h := h.1 c
    exact (b_Mod_takes_260 hd h).less (e_sc (List.mem_of_getElem? (i := 0) rfl) e_sn)
  have h := h.2 c
  refine ⟨fun c => ?_, fun c => ?_⟩
  · have h := h.1 c
    exact (b_Mod_takes_260 hd h).less (e_sc (List.mem_of_getElem? (i := 0) rfl) e_sn)
  have h := h.2 c
  refine ⟨fun c => ?_, fun c => ?_⟩
  · have h := h.1 c
    exact (b_Mod_takes_260 hd h).less (e_sc (List.mem_of_getElem? (i := 0) rfl) e_sn)
  have h := h.2 c
  refine ⟨fun c => ?_, fun c => ?_⟩
  · have h := h.1 c
    exact (b_Mod_takes_260 hd h).less (e_sc (List.mem_of_getElem? (i := 0) rfl) e_sn)
  have h := h.2 c
  refine ⟨fun c => ?_, fun c => ?_⟩
  · have h := h.1 c
    exact (b_Mod_takes_260 hd h).less (e_sc (List.mem_of_getElem? (i := 0) rfl) e_sn)
  have h := h.2 c
  refine ⟨fun c => ?_, fun c => ?_⟩
  · have h := h.1 c
    exact (b_Mod_takes_260 hd h).less (e_sc (List.mem_of_getElem? (i := 0) rfl) e_sn)
  have h := h.2 c
  refine ⟨fun c => ?_, fun c => ?_⟩
  · have h := h.1 c
    exact (b_Mod_takes_260 hd h).less (e_sc (List.mem_of_getElem? (i := 0) rfl) e_sn)
  have h := h.2 c
  refine ⟨fun c => ?_, fun c => ?_⟩
  · have h := h.1 c
    exact (b_Mod_takes_260 hd h).less (e_sc (List.mem_of_getElem? (i := 0) rfl) e_sn)
  have h := h.2 c
  refine ⟨fun c => ?_, fun c => ?_⟩
  · have h := h.1 c
    exact (b_Mod_takes_260 hd h).less (e_sc (List.mem_of_getElem? (i := 0) rfl) e_sn)
  have h := h.2 c
  refine ⟨fun c => ?_, fun c => ?_⟩
  · have h := h.1 c
    exact (b_Mod_takes_260 hd h).less (e_sc (List.mem_of_getElem? (i := 0) rfl) e_sn)
  have h := h.2 c
  refine ⟨fun c => ?_, fun c => ?_⟩
  · have h := h.1 c
    exact (b_Mod_takes_224 hd h).less e_sn
  have h := h.2 c
  refine ⟨fun c => ?_, fun c => ?_⟩
  · have h := h.1 c
    exact (b_Mod_takes_260 hd h).less (e_sc (List.mem_of_getElem? (i := 0) rfl) e_sn)
  have h := h.2 c
  refine ⟨fun c => ?_, fun c => ?_⟩
  · have h := h.1 c
    exact (b_Mod_takes_260 hd h).less (e_sc (List.mem_of_getElem? (i := 0) rfl) e_sn)
  have h := h.2 c
  refine ⟨fun c => ?_, fun c => ?_⟩
  · have h := h.1 c
    exact (b_Mod_takes_260 hd h).less (e_sc (List.mem_of_getElem? (i := 0) rfl) e_sn)
  have h := h.2 c
  refine ⟨fun c => ?_, fun c => ?_⟩
  · have h := h.1 c
    exact (b_Mod_takes_260 hd h).less (e_sc (List.mem_of_getElem? (i := 0) rfl) e_sn)
  have h := h.2 c
  refine ⟨fun c => ?_, fun c => ?_⟩
  · have h := h.1 c
    exact (b_Mod_takes_260 hd h).less (e_sc (List.mem_of_getElem? (i := 0) rfl) e_sn)
  have h := h.2 c
  refine ⟨fun c => ?_, fun c => ?_⟩
  · have h := h.1 c
    exact (b_Mod_takes_260 hd h).less (e_sc (List.mem_of_getElem? (i := 0) rfl) e_sn)
  have h := h.2 c
  refine ⟨fun c => ?_, fun c => ?_⟩
  · have h := h.1 c
    exact (b_Mod_takes_260 hd h).less (e_sc (List.mem_of_getElem? (i := 0) rfl) e_sn)
  have h := h.2 c
  refine ⟨fun c => ?_, fun c => ?_⟩
  · have h := h.1 c
    exact (b_Mod_takes_260 hd h).less (e_sc (List.mem_of_getElem? (i := 0) rfl) e_sn)
  have h := h.2 c
  refine ⟨fun c => ?_, fun c => ?_⟩
  · have h := h.1 c
    exact (b_Mod_takes_260 hd h).less (e_sc (List.mem_of_getElem? (i := 0) rfl) e_sn)
  have h := h.2 c
  refine ⟨fun c => ?_, fun c => ?_⟩
  · have h := h.1 c
    exact (b_Mod_takes_260 hd h).less (e_sc (List.mem_of_getElem? (i := 0) rfl) e_sn)
  have h := h.2 c
  refine ⟨fun c => ?_, fun c => ?_⟩
  · have h := h.1 c
    exact (b_Mod_takes_260 hd h).less (e_sc (List.mem_of_getElem? (i := 0) rfl) e_sn)
  have h := h.2 c
  refine ⟨fun c => ?_, fun c => ?_⟩
  · have h := h.1 c
    exact (b_Mod_takes_260 hd h).less (e_sc (List.mem_of_getElem? (i := 0) rfl) e_sn)
  have h := h.2 c
  refine ⟨fun c => ?_, fun c => ?_⟩
  · have h := h.1 c
    exact (b_Mod_takes_260 hd h).less (e_sc (List.mem_of_getElem? (i := 0) rfl) e_sn)
  have h := h.2 c
  refine ⟨fun c => ?_, fun c => ?_⟩
  · have h := h.1 c
    exact (b_Mod_takes_260 hd h).less (e_sc (List.mem_of_getElem? (i := 0) rfl) e_sn)
  have h := h.2 c
  refine ⟨fun c => ?_, fun c => ?_⟩
  · have h := h.1 c
    exact (b_Mod_takes_224 hd h).less e_sn
  have h := h.2 c
  refine ⟨fun c => ?_, fun c => ?_⟩
  · have h := h.1 c
    exact (b_Mod_takes_224 hd h).less e_sn
  have h := h.2 c
  refine ⟨fun c => ?_, fun c => ?_⟩
  · have h := h.1 c
    exact (b_Mod_takes_226 hd h).less e_sn
  have h := h.2 c
  refine ⟨fun c => ?_, fun c => ?_⟩
  · have h := h.1 c
    exact (b_Mod_takes_226 hd h).less e_sn
  have h := h.2 c
  refine ⟨fun c => ?_, fun c => ?_⟩
  · have h := h.1 c
    exact (b_Mod_takes_260 hd h).less (e_sc (List.mem_of_getElem? (i := 0) rfl) e_sn)
  have h := h.2 c
  refine ⟨fun c => ?_, fun c => ?_⟩
  · have h := h.1 c
    exact (b_Mod_takes_224 hd h).less e_sn
  have h := h.2 c
  refine ⟨fun c => ?_, fun c => ?_⟩
  · have h := h.1 c
    exact (b_Mod_takes_226 hd h).less e_sn
  have h := h.2 c
  refine ⟨fun c => ?_, fun c => ?_⟩
  · have h := h.1 c
    exact (b_Mod_takes_224 hd h).less e_sn
  have h := h.2 c
  refine ⟨fun c => ?_, fun c => ?_⟩
  · have h := h.1 c
    exact (b_Mod_takes_226 hd h).less e_sn
  have h := h.2 c
  refine ⟨fun c => ?_, fun c => ?_⟩
  · have h := h.1 c
    refine r_iconst (kd176 rfl) (y := 3) (by decide) rfl ?_
    exact r_ireturn (kd176 rfl) R176 h
  have h := h.2 c
  refine ⟨fun c => ?_, fun c => ?_⟩
  · have h := h.1 c
    exact (b_Mod_takes_224 hd h).less e_sn
  have h := h.2 c
  refine ⟨fun c => ?_, fun c => ?_⟩
  · have h := h.1 c
    exact (b_Mod_takes_224 hd h).less e_sn
  have h := h.2 c
  refine ⟨fun c => ?_, fun c => ?_⟩
  · have h := h.1 c
    exact (b_Mod_takes_224 hd h).less e_sn
  have h := h.2 c
  refine ⟨fun c => ?_, fun c => ?_⟩
  · have h := h.1 c
    refine r_aload_n (kd176 rfl) rfl rfl ?_
    obtain ⟨g, h⟩ := h
    refine r_get2 (kd176 rfl) (by decide) rfl g rfl ?_
    refine r_aload_n (kd176 rfl) rfl rfl ?_
    refine r_iload_n (kd176 rfl) rfl rfl ?_
    refine r_iload_n (kd176 rfl) rfl rfl ?_
    refine r_iconst (kd176 rfl) (y := 1) (by decide) rfl ?_
    refine r_iadd (kd176 rfl) rfl ?_
    obtain ⟨g, h⟩ := h
    refine r_callVI (d' := d - 1) (by omega) (kd176 rfl) (by decide) rfl rfl rfl rfl (Nat.le_of_ble_eq_true rfl) rfl L158 (Nat.le_of_ble_eq_true rfl) (Nat.le_of_ble_eq_true rfl) g (Nat.zero_le _) (Nat.zero_le _) rfl rfl rfl (b_Mod_byteAt (by omega) h) (fun x1 M1 h => ?_)
    obtain ⟨g, h⟩ := h
    refine r_iaload (kd176 rfl) g rfl ?_
    exact r_ireturn (kd176 rfl) R176 h
  have h := h.2 c
  refine ⟨fun c => ?_, fun c => ?_⟩
  · have h := h.1 c
    refine r_iconst (kd176 rfl) (y := 1) (by decide) rfl ?_
    refine r_aload_n (kd176 rfl) rfl rfl ?_
    obtain ⟨g, h⟩ := h
    refine r_get2 (kd176 rfl) (by decide) rfl g rfl ?_
    refine r_aload_n (kd176 rfl) rfl rfl ?_
    refine r_iload_n (kd176 rfl) rfl rfl ?_
    refine r_iload_n (kd176 rfl) rfl rfl ?_
    refine r_iconst (kd176 rfl) (y := 1) (by decide) rfl ?_
    refine r_iadd (kd176 rfl) rfl ?_
    obtain ⟨g, h⟩ := h
    refine r_callVI (d' := d - 1) (by omega) (kd176 rfl) (by decide) rfl rfl rfl rfl (Nat.le_of_ble_eq_true rfl) rfl L158 (Nat.le_of_ble_eq_true rfl) (Nat.le_of_ble_eq_true rfl) g (Nat.zero_le _) (Nat.zero_le _) rfl rfl rfl (b_Mod_byteAt (by omega) h) (fun x1 M1 h => ?_)
    obtain ⟨g, h⟩ := h
    refine r_iaload (kd176 rfl) g rfl ?_
    refine r_iadd (kd176 rfl) rfl ?_
    exact r_ireturn (kd176 rfl) R176 h
  have h := h.2 c
  refine ⟨fun c => ?_, fun c => ?_⟩
  · have h := h.1 c
    exact (b_Mod_takes_260 hd h).less (e_sc (List.mem_of_getElem? (i := 0) rfl) e_sn)
  have h := h.2 c
  refine ⟨fun c => ?_, fun c => ?_⟩
  · have h := h.1 c
    exact (b_Mod_takes_224 hd h).less e_sn
  have h := h.2 c
  refine ⟨fun c => ?_, fun c => ?_⟩
  · have h := h.1 c
    exact (b_Mod_takes_224 hd h).less e_sn
  have h := h.2 c
  refine ⟨fun c => ?_, fun c => ?_⟩
  · have h := h.1 c
    exact (b_Mod_takes_260 hd h).less (e_sc (List.mem_of_getElem? (i := 0) rfl) e_sn)
  have h := h.2 c
  refine ⟨fun c => ?_, fun c => ?_⟩
  · have h := h.1 c
    exact (b_Mod_takes_224 hd h).less e_sn
  have h := h.2 c
  show e_E 176 _ _ _ 260 _ _ _ _
  exact (b_Mod_takes_260 hd h).less (e_sc (List.mem_of_getElem? (i := 0) rfl) e_sn)
/-- TierMillModel.behind(II)V -/
theorem kd177 {pc : Nat} {q : eI} (h : e_d177.lookup pc = some q) : e_dec 177 pc = some q := h
theorem L177 : (e_m 177).2.2.1 = 8 := rfl
theorem R177 : (e_m 177).2.2.2.1 = none := rfl
set_option maxRecDepth 100000 in
def w_Mod_behind_565 (M : eM) (Q : eM → Prop) : Prop := Q M
set_option maxRecDepth 100000 in
theorem b_Mod_behind_565 {d : Nat} {M : eM} {Q : eM → Prop} (hd : 2 ≤ d) (h : w_Mod_behind_565 M Q ) : e_E 177 d 0 0 565 [] [] M (e_QV Q) := by
  unfold w_Mod_behind_565 at h
  exact r_return (kd177 rfl) R177 h
set_option maxRecDepth 100000 in
def w_Mod_behind_380 (l0 : Nat) (M : eM) (Q : eM → Prop) : Prop := e_ob M l0 12 ∧ w_Mod_pushKind l0 1 M (fun (M27 : eM) => w_Mod_behind_565 M27 Q)
set_option maxRecDepth 100000 in
theorem b_Mod_behind_380 {d : Nat} {l0 : Nat} {M : eM} {Q : eM → Prop} (hd : 2 ≤ d) (h : w_Mod_behind_380 l0 M Q ) : e_E 177 d 0 0 380 [(0, .ref l0)] [] M (e_QV Q) := by
  unfold w_Mod_behind_380 at h
  refine r_aload_n (kd177 rfl) rfl rfl ?_
  refine r_iconst (kd177 rfl) (y := 1) (by decide) rfl ?_
  obtain ⟨g, h⟩ := h
  refine r_callVV (d' := d - 1) (by omega) (kd177 rfl) (by decide) rfl rfl rfl rfl (Nat.le_of_ble_eq_true rfl) rfl L174 (Nat.le_of_ble_eq_true rfl) (Nat.le_of_ble_eq_true rfl) g (Nat.zero_le _) (Nat.zero_le _) rfl rfl rfl (b_Mod_pushKind (by omega) h) (fun M1 h => ?_)
  refine r_goto (kd177 rfl) ?_
  exact (b_Mod_behind_565 hd h).less e_sn
set_option maxRecDepth 100000 in
def w_Mod_behind_452 (l0 : Nat) (l5 : Int32) (M : eM) (Q : eM → Prop) : Prop := e_ob M l0 12 ∧ w_Mod_pushKind l0 (16 + l5) M (fun (M25 : eM) => w_Mod_behind_565 M25 Q)
set_option maxRecDepth 100000 in
theorem b_Mod_behind_452 {d : Nat} {l0 : Nat} {l5 : Int32} {M : eM} {Q : eM → Prop} (hd : 2 ≤ d) (h : w_Mod_behind_452 l0 l5 M Q ) : e_E 177 d 0 0 452 [(0, .ref l0), (5, .int l5)] [] M (e_QV Q) := by
  unfold w_Mod_behind_452 at h
  refine r_aload_n (kd177 rfl) rfl rfl ?_
  refine r_bipush (kd177 rfl) (y := 16) (by decide) rfl ?_
  refine r_iload (kd177 rfl) rfl rfl ?_
  refine r_iadd (kd177 rfl) rfl ?_
  obtain ⟨g, h⟩ := h
  refine r_callVV (d' := d - 1) (by omega) (kd177 rfl) (by decide) rfl rfl rfl rfl (Nat.le_of_ble_eq_true rfl) rfl L174 (Nat.le_of_ble_eq_true rfl) (Nat.le_of_ble_eq_true rfl) g (Nat.zero_le _) (Nat.zero_le _) rfl rfl rfl (b_Mod_pushKind (by omega) h) (fun M1 h => ?_)
  refine r_goto (kd177 rfl) ?_
  exact (b_Mod_behind_565 hd h).less e_sn
set_option maxRecDepth 100000 in
def w_Mod_behind_546 (l0 : Nat) (l4 : Int32) (M : eM) (Q : eM → Prop) : Prop := (l4 < 8 → w_Mod_behind_565 M Q) ∧ (¬ l4 < 8 → (19 < l4 → w_Mod_behind_565 M Q) ∧ (¬ 19 < l4 → e_ob M l0 12 ∧ w_Mod_pushKind l0 1 M (fun (M26 : eM) => w_Mod_behind_565 M26 Q)))
set_option maxRecDepth 100000 in
theorem b_Mod_behind_546 {d : Nat} {l0 : Nat} {l4 : Int32} {M : eM} {Q : eM → Prop} (hd : 2 ≤ d) (h : w_Mod_behind_546 l0 l4 M Q ) : e_E 177 d 0 0 546 [(0, .ref l0), (4, .int l4)] [] M (e_QV Q) := by
  unfold w_Mod_behind_546 at h
  refine r_iload (kd177 rfl) rfl rfl ?_
  refine r_bipush (kd177 rfl) (y := 8) (by decide) rfl ?_
  refine r_icmp_lt (kd177 rfl) rfl (fun c => ?_) (fun c => ?_)
  · have h := h.1 c
    exact (b_Mod_behind_565 hd h).less e_sn
  · have h := h.2 c
    refine r_iload (kd177 rfl) rfl rfl ?_
    refine r_bipush (kd177 rfl) (y := 19) (by decide) rfl ?_
    refine r_icmp_gt (kd177 rfl) rfl (fun c => ?_) (fun c => ?_)
    · have h := h.1 c
      exact (b_Mod_behind_565 hd h).less e_sn
    · have h := h.2 c
      refine r_aload_n (kd177 rfl) rfl rfl ?_
      refine r_iconst (kd177 rfl) (y := 1) (by decide) rfl ?_
      obtain ⟨g, h⟩ := h
      refine r_callVV (d' := d - 1) (by omega) (kd177 rfl) (by decide) rfl rfl rfl rfl (Nat.le_of_ble_eq_true rfl) rfl L174 (Nat.le_of_ble_eq_true rfl) (Nat.le_of_ble_eq_true rfl) g (Nat.zero_le _) (Nat.zero_le _) rfl rfl rfl (b_Mod_pushKind (by omega) h) (fun M1 h => ?_)
      exact (b_Mod_behind_565 hd h).less e_sn
set_option maxRecDepth 100000 in
def w_Mod_behind_140 (l0 : Nat) (l1 : Int32) (l2 : Int32) (l4 : Int32) (l5 : Int32) (l6 : Int32) (s0 : Int32) (M : eM) (Q : eM → Prop) : Prop := e_ob M l0 12 ∧ w_Mod_takes l0 l1 l2 M (fun (v10 : Int32) (M9 : eM) => e_ob M9 l0 12 ∧ w_Mod_drop l0 v10 M9 (fun (M11 : eM) => (l4 = 0 → w_Mod_behind_380 l0 M11 Q) ∧ (¬ l4 = 0 → (l4 = 1 → w_Mod_behind_380 l0 M11 Q) ∧ (¬ l4 = 1 → (l4 = 2 → e_ob M11 l0 12 ∧ w_Mod_pushKind l0 3 M11 (fun (M12 : eM) => w_Mod_behind_565 M12 Q)) ∧ (¬ l4 = 2 → (l4 = 3 → e_ob M11 l0 12 ∧ e_ai M11 (gr M11 l0 31) l5 ∧ e_ob M11 l0 12 ∧ w_Mod_pushKind l0 (gi M11 (gr M11 l0 31) l5.toNatClampNeg) M11 (fun (M13 : eM) => w_Mod_behind_565 M13 Q)) ∧ (¬ l4 = 3 → (l4 = 4 → e_ob M11 l0 12 ∧ e_ar M11 (gr M11 l0 31) 20 l5 ∧ ∀ M14 : eM, M14 = e_si M11 (gr M11 l0 31) l5.toNatClampNeg l6 → w_Mod_behind_565 M14 Q) ∧ (¬ l4 = 4 → (l4 = 5 → w_Mod_behind_546 l0 l4 M11 Q) ∧ (¬ l4 = 5 → (l4 = 6 → e_ob M11 l0 12 ∧ w_Mod_pushKind l0 l6 M11 (fun (M15 : eM) => e_ob M15 l0 12 ∧ w_Mod_pushKind l0 l6 M15 (fun (M16 : eM) => w_Mod_behind_565 M16 Q))) ∧ (¬ l4 = 6 → (l4 = 7 → e_ob M11 l0 12 ∧ w_Mod_pushKind l0 l6 M11 (fun (M17 : eM) => e_ob M17 l0 12 ∧ w_Mod_pushKind l0 s0 M17 (fun (M18 : eM) => w_Mod_behind_565 M18 Q))) ∧ (¬ l4 = 7 → (l4 = 8 → w_Mod_behind_546 l0 l4 M11 Q) ∧ (¬ l4 = 8 → (l4 = 9 → w_Mod_behind_546 l0 l4 M11 Q) ∧ (¬ l4 = 9 → (l4 = 10 → w_Mod_behind_546 l0 l4 M11 Q) ∧ (¬ l4 = 10 → (l4 = 11 → w_Mod_behind_546 l0 l4 M11 Q) ∧ (¬ l4 = 11 → (l4 = 12 → w_Mod_behind_546 l0 l4 M11 Q) ∧ (¬ l4 = 12 → (l4 = 13 → w_Mod_behind_546 l0 l4 M11 Q) ∧ (¬ l4 = 13 → (l4 = 14 → w_Mod_behind_546 l0 l4 M11 Q) ∧ (¬ l4 = 14 → (l4 = 15 → w_Mod_behind_546 l0 l4 M11 Q) ∧ (¬ l4 = 15 → (l4 = 16 → w_Mod_behind_546 l0 l4 M11 Q) ∧ (¬ l4 = 16 → (l4 = 17 → w_Mod_behind_546 l0 l4 M11 Q) ∧ (¬ l4 = 17 → (l4 = 18 → w_Mod_behind_546 l0 l4 M11 Q) ∧ (¬ l4 = 18 → (l4 = 19 → w_Mod_behind_546 l0 l4 M11 Q) ∧ (¬ l4 = 19 → (l4 = 20 → w_Mod_behind_546 l0 l4 M11 Q) ∧ (¬ l4 = 20 → (l4 = 21 → w_Mod_behind_546 l0 l4 M11 Q) ∧ (¬ l4 = 21 → (l4 = 22 → w_Mod_behind_546 l0 l4 M11 Q) ∧ (¬ l4 = 22 → (l4 = 23 → w_Mod_behind_546 l0 l4 M11 Q) ∧ (¬ l4 = 23 → (l4 = 24 → w_Mod_behind_546 l0 l4 M11 Q) ∧ (¬ l4 = 24 → (l4 = 25 → w_Mod_behind_546 l0 l4 M11 Q) ∧ (¬ l4 = 25 → (l4 = 26 → w_Mod_behind_546 l0 l4 M11 Q) ∧ (¬ l4 = 26 → (l4 = 27 → w_Mod_behind_546 l0 l4 M11 Q) ∧ (¬ l4 = 27 → (l4 = 28 → w_Mod_behind_546 l0 l4 M11 Q) ∧ (¬ l4 = 28 → (l4 = 29 → w_Mod_behind_546 l0 l4 M11 Q) ∧ (¬ l4 = 29 → (l4 = 30 → w_Mod_behind_546 l0 l4 M11 Q) ∧ (¬ l4 = 30 → (l4 = 31 → w_Mod_behind_546 l0 l4 M11 Q) ∧ (¬ l4 = 31 → (l4 = 32 → w_Mod_behind_546 l0 l4 M11 Q) ∧ (¬ l4 = 32 → (l4 = 33 → w_Mod_behind_546 l0 l4 M11 Q) ∧ (¬ l4 = 33 → (l4 = 34 → w_Mod_behind_546 l0 l4 M11 Q) ∧ (¬ l4 = 34 → (l4 = 35 → w_Mod_behind_546 l0 l4 M11 Q) ∧ (¬ l4 = 35 → (l4 = 36 → w_Mod_behind_546 l0 l4 M11 Q) ∧ (¬ l4 = 36 → (l4 = 37 → w_Mod_behind_546 l0 l4 M11 Q) ∧ (¬ l4 = 37 → (l4 = 38 → w_Mod_behind_452 l0 l5 M11 Q) ∧ (¬ l4 = 38 → (l4 = 39 → e_ob M11 l0 12 ∧ e_ob M11 l0 12 ∧ w_Mod_byteAt l0 l1 (l2 + 2) M11 (fun (v20 : Int32) (M19 : eM) => e_ai M19 (gr M11 l0 14) ((8 * l5) + v20) ∧ e_ob M19 l0 12 ∧ w_Mod_pushKind l0 (gi M19 (gr M11 l0 14) ((8 * l5) + v20).toNatClampNeg) M19 (fun (M21 : eM) => w_Mod_behind_565 M21 Q))) ∧ (¬ l4 = 39 → (l4 = 40 → w_Mod_behind_546 l0 l4 M11 Q) ∧ (¬ l4 = 40 → (l4 = 41 → e_ob M11 l0 12 ∧ w_Mod_pushKind l0 2 M11 (fun (M22 : eM) => w_Mod_behind_565 M22 Q)) ∧ (¬ l4 = 41 → (l4 = 42 → w_Mod_behind_380 l0 M11 Q) ∧ (¬ l4 = 42 → (l4 = 43 → w_Mod_behind_546 l0 l4 M11 Q) ∧ (¬ l4 = 43 → (l4 = 44 → w_Mod_behind_380 l0 M11 Q) ∧ (¬ l4 = 44 → (l4 = 45 → w_Mod_behind_380 l0 M11 Q) ∧ (¬ l4 = 45 → (l4 = 46 → w_Mod_behind_452 l0 l5 M11 Q) ∧ (¬ l4 = 46 → (l4 = 47 → e_ob M11 l0 12 ∧ e_ai M11 (gr M11 l0 22) l5 ∧ ((gi M11 (gr M11 l0 22) l5.toNatClampNeg) ≤ 0 → w_Mod_behind_565 M11 Q) ∧ (¬ (gi M11 (gr M11 l0 22) l5.toNatClampNeg) ≤ 0 → e_ob M11 l0 12 ∧ e_ai M11 (gr M11 l0 22) l5 ∧ e_ob M11 l0 12 ∧ w_Mod_pushKind l0 (gi M11 (gr M11 l0 22) l5.toNatClampNeg) M11 (fun (M23 : eM) => w_Mod_behind_565 M23 Q))) ∧ (¬ l4 = 47 → (l4 = 48 → e_ob M11 l0 12 ∧ e_ai M11 (gr M11 l0 18) l5 ∧ ((gi M11 (gr M11 l0 18) l5.toNatClampNeg) ≤ 0 → w_Mod_behind_565 M11 Q) ∧ (¬ (gi M11 (gr M11 l0 18) l5.toNatClampNeg) ≤ 0 → e_ob M11 l0 12 ∧ e_ai M11 (gr M11 l0 18) l5 ∧ e_ob M11 l0 12 ∧ w_Mod_pushKind l0 (gi M11 (gr M11 l0 18) l5.toNatClampNeg) M11 (fun (M24 : eM) => w_Mod_behind_565 M24 Q))) ∧ (¬ l4 = 48 → (l4 = 49 → w_Mod_behind_546 l0 l4 M11 Q) ∧ (¬ l4 = 49 → (l4 = 50 → w_Mod_behind_546 l0 l4 M11 Q) ∧ (¬ l4 = 50 → (l4 = 51 → w_Mod_behind_546 l0 l4 M11 Q) ∧ (¬ l4 = 51 → (l4 = 52 → w_Mod_behind_380 l0 M11 Q) ∧ (¬ l4 = 52 → w_Mod_behind_546 l0 l4 M11 Q)))))))))))))))))))))))))))))))))))))))))))))))))))))))
set_option maxRecDepth 100000 in
theorem b_Mod_behind_140 {d : Nat} {l0 : Nat} {l1 : Int32} {l2 : Int32} {l4 : Int32} {l5 : Int32} {l6 : Int32} {s0 : Int32} {M : eM} {Q : eM → Prop} (hd : 2 ≤ d) (h : w_Mod_behind_140 l0 l1 l2 l4 l5 l6 s0 M Q ) : e_E 177 d 0 0 140 [(0, .ref l0), (1, .int l1), (2, .int l2), (4, .int l4), (5, .int l5), (6, .int l6)] [.int s0] M (e_QV Q) := by
  unfold w_Mod_behind_140 at h
  refine r_istore (kd177 rfl) L177 (by decide) rfl rfl ?_
  refine r_aload_n (kd177 rfl) rfl rfl ?_
  refine r_aload_n (kd177 rfl) rfl rfl ?_
  refine r_iload_n (kd177 rfl) rfl rfl ?_
  refine r_iload_n (kd177 rfl) rfl rfl ?_
  obtain ⟨g, h⟩ := h
  refine r_callVI (d' := d - 1) (by omega) (kd177 rfl) (by decide) rfl rfl rfl rfl (Nat.le_of_ble_eq_true rfl) rfl L176 (Nat.le_of_ble_eq_true rfl) (Nat.le_of_ble_eq_true rfl) g (Nat.zero_le _) (Nat.zero_le _) rfl rfl rfl (b_Mod_takes (by omega) h) (fun x1 M1 h => ?_)
  obtain ⟨g, h⟩ := h
  refine r_callVV (d' := d - 1) (by omega) (kd177 rfl) (by decide) rfl rfl rfl rfl (Nat.le_of_ble_eq_true rfl) rfl L175 (Nat.le_of_ble_eq_true rfl) (Nat.le_of_ble_eq_true rfl) g (Nat.zero_le _) (Nat.zero_le _) rfl rfl rfl (b_Mod_drop (by omega) h) (fun M1 h => ?_)
  refine r_iload (kd177 rfl) rfl rfl ?_
  refine r_tableswitch (kd177 rfl) (u := 546) (qs := [(0, 380), (1, 380), (2, 388), (3, 396), (4, 410), (5, 546), (6, 422), (7, 437), (8, 546), (9, 546), (10, 546), (11, 546), (12, 546), (13, 546), (14, 546), (15, 546), (16, 546), (17, 546), (18, 546), (19, 546), (20, 546), (21, 546), (22, 546), (23, 546), (24, 546), (25, 546), (26, 546), (27, 546), (28, 546), (29, 546), (30, 546), (31, 546), (32, 546), (33, 546), (34, 546), (35, 546), (36, 546), (37, 546), (38, 452), (39, 464), (40, 546), (41, 490), (42, 380), (43, 546), (44, 380), (45, 380), (46, 452), (47, 498), (48, 522), (49, 546), (50, 546), (51, 546), (52, 380)]) rfl rfl rfl (by decide) ?_
  refine ⟨fun c => ?_, fun c => ?_⟩
  · have h := h.1 c
    exact (b_Mod_behind_380 hd h).less (e_sc (List.mem_of_getElem? (i := 1) rfl) e_sn)
  have h := h.2 c
  refine ⟨fun c => ?_, fun c => ?_⟩
  · have h := h.1 c
    exact (b_Mod_behind_380 hd h).less (e_sc (List.mem_of_getElem? (i := 1) rfl) e_sn)
  have h := h.2 c
  refine ⟨fun c => ?_, fun c => ?_⟩
  · have h := h.1 c
    refine r_aload_n (kd177 rfl) rfl rfl ?_
    refine r_iconst (kd177 rfl) (y := 3) (by decide) rfl ?_
    obtain ⟨g, h⟩ := h
    refine r_callVV (d' := d - 1) (by omega) (kd177 rfl) (by decide) rfl rfl rfl rfl (Nat.le_of_ble_eq_true rfl) rfl L174 (Nat.le_of_ble_eq_true rfl) (Nat.le_of_ble_eq_true rfl) g (Nat.zero_le _) (Nat.zero_le _) rfl rfl rfl (b_Mod_pushKind (by omega) h) (fun M1 h => ?_)
    refine r_goto (kd177 rfl) ?_
    exact (b_Mod_behind_565 hd h).less e_sn
  have h := h.2 c
  refine ⟨fun c => ?_, fun c => ?_⟩
  · have h := h.1 c
    refine r_aload_n (kd177 rfl) rfl rfl ?_
    refine r_aload_n (kd177 rfl) rfl rfl ?_
    obtain ⟨g, h⟩ := h
    refine r_get2 (kd177 rfl) (by decide) rfl g rfl ?_
    refine r_iload (kd177 rfl) rfl rfl ?_
    obtain ⟨g, h⟩ := h
    refine r_iaload (kd177 rfl) g rfl ?_
    obtain ⟨g, h⟩ := h
    refine r_callVV (d' := d - 1) (by omega) (kd177 rfl) (by decide) rfl rfl rfl rfl (Nat.le_of_ble_eq_true rfl) rfl L174 (Nat.le_of_ble_eq_true rfl) (Nat.le_of_ble_eq_true rfl) g (Nat.zero_le _) (Nat.zero_le _) rfl rfl rfl (b_Mod_pushKind (by omega) h) (fun M1 h => ?_)
    refine r_goto (kd177 rfl) ?_
    exact (b_Mod_behind_565 hd h).less e_sn
  have h := h.2 c
  refine ⟨fun c => ?_, fun c => ?_⟩
  · have h := h.1 c
    refine r_aload_n (kd177 rfl) rfl rfl ?_
    obtain ⟨g, h⟩ := h
    refine r_get2 (kd177 rfl) (by decide) rfl g rfl ?_
    refine r_iload (kd177 rfl) rfl rfl ?_
    refine r_iload (kd177 rfl) rfl rfl ?_
    obtain ⟨g, h⟩ := h
    have h := h _ rfl
    refine r_iastore (kd177 rfl) g rfl ?_
    refine r_goto (kd177 rfl) ?_
    exact (b_Mod_behind_565 hd h).less e_sn
  have h := h.2 c
  refine ⟨fun c => ?_, fun c => ?_⟩
  · have h := h.1 c
    exact (b_Mod_behind_546 hd h).less (e_sc (List.mem_of_getElem? (i := 1) rfl) (e_sc (List.mem_of_getElem? (i := 4) rfl) e_sn))
  have h := h.2 c
  refine ⟨fun c => ?_, fun c => ?_⟩
  · have h := h.1 c
    refine r_aload_n (kd177 rfl) rfl rfl ?_
    refine r_iload (kd177 rfl) rfl rfl ?_
    obtain ⟨g, h⟩ := h
    refine r_callVV (d' := d - 1) (by omega) (kd177 rfl) (by decide) rfl rfl rfl rfl (Nat.le_of_ble_eq_true rfl) rfl L174 (Nat.le_of_ble_eq_true rfl) (Nat.le_of_ble_eq_true rfl) g (Nat.zero_le _) (Nat.zero_le _) rfl rfl rfl (b_Mod_pushKind (by omega) h) (fun M1 h => ?_)
    refine r_aload_n (kd177 rfl) rfl rfl ?_
    refine r_iload (kd177 rfl) rfl rfl ?_
    obtain ⟨g, h⟩ := h
    refine r_callVV (d' := d - 1) (by omega) (kd177 rfl) (by decide) rfl rfl rfl rfl (Nat.le_of_ble_eq_true rfl) rfl L174 (Nat.le_of_ble_eq_true rfl) (Nat.le_of_ble_eq_true rfl) g (Nat.zero_le _) (Nat.zero_le _) rfl rfl rfl (b_Mod_pushKind (by omega) h) (fun M1 h => ?_)
    refine r_goto (kd177 rfl) ?_
    exact (b_Mod_behind_565 hd h).less e_sn
  have h := h.2 c
  refine ⟨fun c => ?_, fun c => ?_⟩
  · have h := h.1 c
    refine r_aload_n (kd177 rfl) rfl rfl ?_
    refine r_iload (kd177 rfl) rfl rfl ?_
    obtain ⟨g, h⟩ := h
    refine r_callVV (d' := d - 1) (by omega) (kd177 rfl) (by decide) rfl rfl rfl rfl (Nat.le_of_ble_eq_true rfl) rfl L174 (Nat.le_of_ble_eq_true rfl) (Nat.le_of_ble_eq_true rfl) g (Nat.zero_le _) (Nat.zero_le _) rfl rfl rfl (b_Mod_pushKind (by omega) h) (fun M1 h => ?_)
    refine r_aload_n (kd177 rfl) rfl rfl ?_
    refine r_iload (kd177 rfl) rfl rfl ?_
    obtain ⟨g, h⟩ := h
    refine r_callVV (d' := d - 1) (by omega) (kd177 rfl) (by decide) rfl rfl rfl rfl (Nat.le_of_ble_eq_true rfl) rfl L174 (Nat.le_of_ble_eq_true rfl) (Nat.le_of_ble_eq_true rfl) g (Nat.zero_le _) (Nat.zero_le _) rfl rfl rfl (b_Mod_pushKind (by omega) h) (fun M1 h => ?_)
    refine r_goto (kd177 rfl) ?_
    exact (b_Mod_behind_565 hd h).less e_sn
  have h := h.2 c
  refine ⟨fun c => ?_, fun c => ?_⟩
  · have h := h.1 c
    exact (b_Mod_behind_546 hd h).less (e_sc (List.mem_of_getElem? (i := 1) rfl) (e_sc (List.mem_of_getElem? (i := 4) rfl) e_sn))
  have h := h.2 c
  refine ⟨fun c => ?_, fun c => ?_⟩
  · have h := h.1 c
    exact (b_Mod_behind_546 hd h).less (e_sc (List.mem_of_getElem? (i := 1) rfl) (e_sc (List.mem_of_getElem? (i := 4) rfl) e_sn))
  have h := h.2 c
  refine ⟨fun c => ?_, fun c => ?_⟩
  · have h := h.1 c
    exact (b_Mod_behind_546 hd h).less (e_sc (List.mem_of_getElem? (i := 1) rfl) (e_sc (List.mem_of_getElem? (i := 4) rfl) e_sn))
  have h := h.2 c
  refine ⟨fun c => ?_, fun c => ?_⟩
  · have h := h.1 c
    exact (b_Mod_behind_546 hd h).less (e_sc (List.mem_of_getElem? (i := 1) rfl) (e_sc (List.mem_of_getElem? (i := 4) rfl) e_sn))
  have h := h.2 c
  refine ⟨fun c => ?_, fun c => ?_⟩
  · have h := h.1 c
    exact (b_Mod_behind_546 hd h).less (e_sc (List.mem_of_getElem? (i := 1) rfl) (e_sc (List.mem_of_getElem? (i := 4) rfl) e_sn))
  have h := h.2 c
  refine ⟨fun c => ?_, fun c => ?_⟩
  · have h := h.1 c
    exact (b_Mod_behind_546 hd h).less (e_sc (List.mem_of_getElem? (i := 1) rfl) (e_sc (List.mem_of_getElem? (i := 4) rfl) e_sn))
  have h := h.2 c
  refine ⟨fun c => ?_, fun c => ?_⟩
  · have h := h.1 c
    exact (b_Mod_behind_546 hd h).less (e_sc (List.mem_of_getElem? (i := 1) rfl) (e_sc (List.mem_of_getElem? (i := 4) rfl) e_sn))
  have h := h.2 c
  refine ⟨fun c => ?_, fun c => ?_⟩
  · have h := h.1 c
    exact (b_Mod_behind_546 hd h).less (e_sc (List.mem_of_getElem? (i := 1) rfl) (e_sc (List.mem_of_getElem? (i := 4) rfl) e_sn))
  have h := h.2 c
  refine ⟨fun c => ?_, fun c => ?_⟩
  · have h := h.1 c
    exact (b_Mod_behind_546 hd h).less (e_sc (List.mem_of_getElem? (i := 1) rfl) (e_sc (List.mem_of_getElem? (i := 4) rfl) e_sn))
  have h := h.2 c
  refine ⟨fun c => ?_, fun c => ?_⟩
  · have h := h.1 c
    exact (b_Mod_behind_546 hd h).less (e_sc (List.mem_of_getElem? (i := 1) rfl) (e_sc (List.mem_of_getElem? (i := 4) rfl) e_sn))
  have h := h.2 c
  refine ⟨fun c => ?_, fun c => ?_⟩
  · have h := h.1 c
    exact (b_Mod_behind_546 hd h).less (e_sc (List.mem_of_getElem? (i := 1) rfl) (e_sc (List.mem_of_getElem? (i := 4) rfl) e_sn))
  have h := h.2 c
  refine ⟨fun c => ?_, fun c => ?_⟩
  · have h := h.1 c
    exact (b_Mod_behind_546 hd h).less (e_sc (List.mem_of_getElem? (i := 1) rfl) (e_sc (List.mem_of_getElem? (i := 4) rfl) e_sn))
  have h := h.2 c
  refine ⟨fun c => ?_, fun c => ?_⟩
  · have h := h.1 c
    exact (b_Mod_behind_546 hd h).less (e_sc (List.mem_of_getElem? (i := 1) rfl) (e_sc (List.mem_of_getElem? (i := 4) rfl) e_sn))
  have h := h.2 c
  refine ⟨fun c => ?_, fun c => ?_⟩
  · have h := h.1 c
    exact (b_Mod_behind_546 hd h).less (e_sc (List.mem_of_getElem? (i := 1) rfl) (e_sc (List.mem_of_getElem? (i := 4) rfl) e_sn))
  have h := h.2 c
  refine ⟨fun c => ?_, fun c => ?_⟩
  · have h := h.1 c
    exact (b_Mod_behind_546 hd h).less (e_sc (List.mem_of_getElem? (i := 1) rfl) (e_sc (List.mem_of_getElem? (i := 4) rfl) e_sn))
  have h := h.2 c
  refine ⟨fun c => ?_, fun c => ?_⟩
  · have h := h.1 c
    exact (b_Mod_behind_546 hd h).less (e_sc (List.mem_of_getElem? (i := 1) rfl) (e_sc (List.mem_of_getElem? (i := 4) rfl) e_sn))
  have h := h.2 c
  refine ⟨fun c => ?_, fun c => ?_⟩
  · have h := h.1 c
    exact (b_Mod_behind_546 hd h).less (e_sc (List.mem_of_getElem? (i := 1) rfl) (e_sc (List.mem_of_getElem? (i := 4) rfl) e_sn))
  have h := h.2 c
  refine ⟨fun c => ?_, fun c => ?_⟩
  · have h := h.1 c
    exact (b_Mod_behind_546 hd h).less (e_sc (List.mem_of_getElem? (i := 1) rfl) (e_sc (List.mem_of_getElem? (i := 4) rfl) e_sn))
  have h := h.2 c
  refine ⟨fun c => ?_, fun c => ?_⟩
  · have h := h.1 c
    exact (b_Mod_behind_546 hd h).less (e_sc (List.mem_of_getElem? (i := 1) rfl) (e_sc (List.mem_of_getElem? (i := 4) rfl) e_sn))
  have h := h.2 c
  refine ⟨fun c => ?_, fun c => ?_⟩
  · have h := h.1 c
    exact (b_Mod_behind_546 hd h).less (e_sc (List.mem_of_getElem? (i := 1) rfl) (e_sc (List.mem_of_getElem? (i := 4) rfl) e_sn))
  have h := h.2 c
  refine ⟨fun c => ?_, fun c => ?_⟩
  · have h := h.1 c
    exact (b_Mod_behind_546 hd h).less (e_sc (List.mem_of_getElem? (i := 1) rfl) (e_sc (List.mem_of_getElem? (i := 4) rfl) e_sn))
  have h := h.2 c
  refine ⟨fun c => ?_, fun c => ?_⟩
  · have h := h.1 c
    exact (b_Mod_behind_546 hd h).less (e_sc (List.mem_of_getElem? (i := 1) rfl) (e_sc (List.mem_of_getElem? (i := 4) rfl) e_sn))
  have h := h.2 c
  refine ⟨fun c => ?_, fun c => ?_⟩
  · have h := h.1 c
    exact (b_Mod_behind_546 hd h).less (e_sc (List.mem_of_getElem? (i := 1) rfl) (e_sc (List.mem_of_getElem? (i := 4) rfl) e_sn))
  have h := h.2 c
  refine ⟨fun c => ?_, fun c => ?_⟩
  · have h := h.1 c
    exact (b_Mod_behind_546 hd h).less (e_sc (List.mem_of_getElem? (i := 1) rfl) (e_sc (List.mem_of_getElem? (i := 4) rfl) e_sn))
  have h := h.2 c
  refine ⟨fun c => ?_, fun c => ?_⟩
  · have h := h.1 c
    exact (b_Mod_behind_546 hd h).less (e_sc (List.mem_of_getElem? (i := 1) rfl) (e_sc (List.mem_of_getElem? (i := 4) rfl) e_sn))
  have h := h.2 c
  refine ⟨fun c => ?_, fun c => ?_⟩
  · have h := h.1 c
    exact (b_Mod_behind_546 hd h).less (e_sc (List.mem_of_getElem? (i := 1) rfl) (e_sc (List.mem_of_getElem? (i := 4) rfl) e_sn))
  have h := h.2 c
  refine ⟨fun c => ?_, fun c => ?_⟩
  · have h := h.1 c
    exact (b_Mod_behind_546 hd h).less (e_sc (List.mem_of_getElem? (i := 1) rfl) (e_sc (List.mem_of_getElem? (i := 4) rfl) e_sn))
  have h := h.2 c
  refine ⟨fun c => ?_, fun c => ?_⟩
  · have h := h.1 c
    exact (b_Mod_behind_546 hd h).less (e_sc (List.mem_of_getElem? (i := 1) rfl) (e_sc (List.mem_of_getElem? (i := 4) rfl) e_sn))
  have h := h.2 c
  refine ⟨fun c => ?_, fun c => ?_⟩
  · have h := h.1 c
    exact (b_Mod_behind_546 hd h).less (e_sc (List.mem_of_getElem? (i := 1) rfl) (e_sc (List.mem_of_getElem? (i := 4) rfl) e_sn))
  have h := h.2 c
  refine ⟨fun c => ?_, fun c => ?_⟩
  · have h := h.1 c
    exact (b_Mod_behind_546 hd h).less (e_sc (List.mem_of_getElem? (i := 1) rfl) (e_sc (List.mem_of_getElem? (i := 4) rfl) e_sn))
  have h := h.2 c
  refine ⟨fun c => ?_, fun c => ?_⟩
  · have h := h.1 c
    exact (b_Mod_behind_452 hd h).less (e_sc (List.mem_of_getElem? (i := 1) rfl) (e_sc (List.mem_of_getElem? (i := 5) rfl) e_sn))
  have h := h.2 c
  refine ⟨fun c => ?_, fun c => ?_⟩
  · have h := h.1 c
    refine r_aload_n (kd177 rfl) rfl rfl ?_
    refine r_aload_n (kd177 rfl) rfl rfl ?_
    obtain ⟨g, h⟩ := h
    refine r_get2 (kd177 rfl) (by decide) rfl g rfl ?_
    refine r_bipush (kd177 rfl) (y := 8) (by decide) rfl ?_
    refine r_iload (kd177 rfl) rfl rfl ?_
    refine r_imul (kd177 rfl) rfl ?_
    refine r_aload_n (kd177 rfl) rfl rfl ?_
    refine r_iload_n (kd177 rfl) rfl rfl ?_
    refine r_iload_n (kd177 rfl) rfl rfl ?_
    refine r_iconst (kd177 rfl) (y := 2) (by decide) rfl ?_
    refine r_iadd (kd177 rfl) rfl ?_
    obtain ⟨g, h⟩ := h
    refine r_callVI (d' := d - 1) (by omega) (kd177 rfl) (by decide) rfl rfl rfl rfl (Nat.le_of_ble_eq_true rfl) rfl L158 (Nat.le_of_ble_eq_true rfl) (Nat.le_of_ble_eq_true rfl) g (Nat.zero_le _) (Nat.zero_le _) rfl rfl rfl (b_Mod_byteAt (by omega) h) (fun x1 M1 h => ?_)
    refine r_iadd (kd177 rfl) rfl ?_
    obtain ⟨g, h⟩ := h
    refine r_iaload (kd177 rfl) g rfl ?_
    obtain ⟨g, h⟩ := h
    refine r_callVV (d' := d - 1) (by omega) (kd177 rfl) (by decide) rfl rfl rfl rfl (Nat.le_of_ble_eq_true rfl) rfl L174 (Nat.le_of_ble_eq_true rfl) (Nat.le_of_ble_eq_true rfl) g (Nat.zero_le _) (Nat.zero_le _) rfl rfl rfl (b_Mod_pushKind (by omega) h) (fun M1 h => ?_)
    refine r_goto (kd177 rfl) ?_
    exact (b_Mod_behind_565 hd h).less e_sn
  have h := h.2 c
  refine ⟨fun c => ?_, fun c => ?_⟩
  · have h := h.1 c
    exact (b_Mod_behind_546 hd h).less (e_sc (List.mem_of_getElem? (i := 1) rfl) (e_sc (List.mem_of_getElem? (i := 4) rfl) e_sn))
  have h := h.2 c
  refine ⟨fun c => ?_, fun c => ?_⟩
  · have h := h.1 c
    refine r_aload_n (kd177 rfl) rfl rfl ?_
    refine r_iconst (kd177 rfl) (y := 2) (by decide) rfl ?_
    obtain ⟨g, h⟩ := h
    refine r_callVV (d' := d - 1) (by omega) (kd177 rfl) (by decide) rfl rfl rfl rfl (Nat.le_of_ble_eq_true rfl) rfl L174 (Nat.le_of_ble_eq_true rfl) (Nat.le_of_ble_eq_true rfl) g (Nat.zero_le _) (Nat.zero_le _) rfl rfl rfl (b_Mod_pushKind (by omega) h) (fun M1 h => ?_)
    refine r_goto (kd177 rfl) ?_
    exact (b_Mod_behind_565 hd h).less e_sn
  have h := h.2 c
  refine ⟨fun c => ?_, fun c => ?_⟩
  · have h := h.1 c
    exact (b_Mod_behind_380 hd h).less (e_sc (List.mem_of_getElem? (i := 1) rfl) e_sn)
  have h := h.2 c
  refine ⟨fun c => ?_, fun c => ?_⟩
  · have h := h.1 c
    exact (b_Mod_behind_546 hd h).less (e_sc (List.mem_of_getElem? (i := 1) rfl) (e_sc (List.mem_of_getElem? (i := 4) rfl) e_sn))
  have h := h.2 c
  refine ⟨fun c => ?_, fun c => ?_⟩
  · have h := h.1 c
    exact (b_Mod_behind_380 hd h).less (e_sc (List.mem_of_getElem? (i := 1) rfl) e_sn)
  have h := h.2 c
  refine ⟨fun c => ?_, fun c => ?_⟩
  · have h := h.1 c
    exact (b_Mod_behind_380 hd h).less (e_sc (List.mem_of_getElem? (i := 1) rfl) e_sn)
  have h := h.2 c
  refine ⟨fun c => ?_, fun c => ?_⟩
  · have h := h.1 c
    exact (b_Mod_behind_452 hd h).less (e_sc (List.mem_of_getElem? (i := 1) rfl) (e_sc (List.mem_of_getElem? (i := 5) rfl) e_sn))
  have h := h.2 c
  refine ⟨fun c => ?_, fun c => ?_⟩
  · have h := h.1 c
    refine r_aload_n (kd177 rfl) rfl rfl ?_
    obtain ⟨g, h⟩ := h
    refine r_get2 (kd177 rfl) (by decide) rfl g rfl ?_
    refine r_iload (kd177 rfl) rfl rfl ?_
    obtain ⟨g, h⟩ := h
    refine r_iaload (kd177 rfl) g rfl ?_
    refine r_if_le (kd177 rfl) rfl (fun c => ?_) (fun c => ?_)
    · have h := h.1 c
      exact (b_Mod_behind_565 hd h).less e_sn
    · have h := h.2 c
      refine r_aload_n (kd177 rfl) rfl rfl ?_
      refine r_aload_n (kd177 rfl) rfl rfl ?_
      obtain ⟨g, h⟩ := h
      refine r_get2 (kd177 rfl) (by decide) rfl g rfl ?_
      refine r_iload (kd177 rfl) rfl rfl ?_
      obtain ⟨g, h⟩ := h
      refine r_iaload (kd177 rfl) g rfl ?_
      obtain ⟨g, h⟩ := h
      refine r_callVV (d' := d - 1) (by omega) (kd177 rfl) (by decide) rfl rfl rfl rfl (Nat.le_of_ble_eq_true rfl) rfl L174 (Nat.le_of_ble_eq_true rfl) (Nat.le_of_ble_eq_true rfl) g (Nat.zero_le _) (Nat.zero_le _) rfl rfl rfl (b_Mod_pushKind (by omega) h) (fun M1 h => ?_)
      refine r_goto (kd177 rfl) ?_
      exact (b_Mod_behind_565 hd h).less e_sn
  have h := h.2 c
  refine ⟨fun c => ?_, fun c => ?_⟩
  · have h := h.1 c
    refine r_aload_n (kd177 rfl) rfl rfl ?_
    obtain ⟨g, h⟩ := h
    refine r_get2 (kd177 rfl) (by decide) rfl g rfl ?_
    refine r_iload (kd177 rfl) rfl rfl ?_
    obtain ⟨g, h⟩ := h
    refine r_iaload (kd177 rfl) g rfl ?_
    refine r_if_le (kd177 rfl) rfl (fun c => ?_) (fun c => ?_)
    · have h := h.1 c
      exact (b_Mod_behind_565 hd h).less e_sn
    · have h := h.2 c
      refine r_aload_n (kd177 rfl) rfl rfl ?_
      refine r_aload_n (kd177 rfl) rfl rfl ?_
      obtain ⟨g, h⟩ := h
      refine r_get2 (kd177 rfl) (by decide) rfl g rfl ?_
      refine r_iload (kd177 rfl) rfl rfl ?_
      obtain ⟨g, h⟩ := h
      refine r_iaload (kd177 rfl) g rfl ?_
      obtain ⟨g, h⟩ := h
      refine r_callVV (d' := d - 1) (by omega) (kd177 rfl) (by decide) rfl rfl rfl rfl (Nat.le_of_ble_eq_true rfl) rfl L174 (Nat.le_of_ble_eq_true rfl) (Nat.le_of_ble_eq_true rfl) g (Nat.zero_le _) (Nat.zero_le _) rfl rfl rfl (b_Mod_pushKind (by omega) h) (fun M1 h => ?_)
      refine r_goto (kd177 rfl) ?_
      exact (b_Mod_behind_565 hd h).less e_sn
  have h := h.2 c
  refine ⟨fun c => ?_, fun c => ?_⟩
  · have h := h.1 c
    exact (b_Mod_behind_546 hd h).less (e_sc (List.mem_of_getElem? (i := 1) rfl) (e_sc (List.mem_of_getElem? (i := 4) rfl) e_sn))
  have h := h.2 c
  refine ⟨fun c => ?_, fun c => ?_⟩
  · have h := h.1 c
    exact (b_Mod_behind_546 hd h).less (e_sc (List.mem_of_getElem? (i := 1) rfl) (e_sc (List.mem_of_getElem? (i := 4) rfl) e_sn))
  have h := h.2 c
  refine ⟨fun c => ?_, fun c => ?_⟩
  · have h := h.1 c
    exact (b_Mod_behind_546 hd h).less (e_sc (List.mem_of_getElem? (i := 1) rfl) (e_sc (List.mem_of_getElem? (i := 4) rfl) e_sn))
  have h := h.2 c
  refine ⟨fun c => ?_, fun c => ?_⟩
  · have h := h.1 c
    exact (b_Mod_behind_380 hd h).less (e_sc (List.mem_of_getElem? (i := 1) rfl) e_sn)
  have h := h.2 c
  show e_E 177 _ _ _ 546 _ _ _ _
  exact (b_Mod_behind_546 hd h).less (e_sc (List.mem_of_getElem? (i := 1) rfl) (e_sc (List.mem_of_getElem? (i := 4) rfl) e_sn))
set_option maxRecDepth 100000 in
def w_Mod_behind_114 (l0 : Nat) (l1 : Int32) (l2 : Int32) (l4 : Int32) (l5 : Int32) (s0 : Int32) (M : eM) (Q : eM → Prop) : Prop := e_ob M l0 12 ∧ ((gi M l0 32) ≤ 1 → w_Mod_behind_140 l0 l1 l2 l4 l5 s0 0 M Q) ∧ (¬ (gi M l0 32) ≤ 1 → e_ob M l0 12 ∧ e_ob M l0 12 ∧ e_ai M (gr M l0 31) (6 + (gi M l0 32)) ∧ w_Mod_behind_140 l0 l1 l2 l4 l5 s0 (gi M (gr M l0 31) (6 + (gi M l0 32)).toNatClampNeg) M Q)
set_option maxRecDepth 100000 in
theorem b_Mod_behind_114 {d : Nat} {l0 : Nat} {l1 : Int32} {l2 : Int32} {l4 : Int32} {l5 : Int32} {s0 : Int32} {M : eM} {Q : eM → Prop} (hd : 2 ≤ d) (h : w_Mod_behind_114 l0 l1 l2 l4 l5 s0 M Q ) : e_E 177 d 0 0 114 [(0, .ref l0), (1, .int l1), (2, .int l2), (4, .int l4), (5, .int l5)] [.int s0] M (e_QV Q) := by
  unfold w_Mod_behind_114 at h
  refine r_istore (kd177 rfl) L177 (by decide) rfl rfl ?_
  refine r_aload_n (kd177 rfl) rfl rfl ?_
  obtain ⟨g, h⟩ := h
  refine r_get0 (kd177 rfl) (by decide) rfl g rfl ?_
  refine r_iconst (kd177 rfl) (y := 1) (by decide) rfl ?_
  refine r_icmp_le (kd177 rfl) rfl (fun c => ?_) (fun c => ?_)
  · have h := h.1 c
    refine r_iconst (kd177 rfl) (y := 0) (by decide) rfl ?_
    exact (b_Mod_behind_140 hd h).less (e_sc (List.mem_of_getElem? (i := 1) rfl) (e_sc (List.mem_of_getElem? (i := 2) rfl) (e_sc (List.mem_of_getElem? (i := 3) rfl) (e_sc (List.mem_of_getElem? (i := 4) rfl) (e_sc (List.mem_of_getElem? (i := 5) rfl) (e_sc (List.mem_of_getElem? (i := 0) rfl) e_sn))))))
  · have h := h.2 c
    refine r_aload_n (kd177 rfl) rfl rfl ?_
    obtain ⟨g, h⟩ := h
    refine r_get2 (kd177 rfl) (by decide) rfl g rfl ?_
    refine r_bipush (kd177 rfl) (y := 6) (by decide) rfl ?_
    refine r_aload_n (kd177 rfl) rfl rfl ?_
    obtain ⟨g, h⟩ := h
    refine r_get0 (kd177 rfl) (by decide) rfl g rfl ?_
    refine r_iadd (kd177 rfl) rfl ?_
    obtain ⟨g, h⟩ := h
    refine r_iaload (kd177 rfl) g rfl ?_
    refine r_goto (kd177 rfl) ?_
    exact (b_Mod_behind_140 hd h).less (e_sc (List.mem_of_getElem? (i := 1) rfl) (e_sc (List.mem_of_getElem? (i := 2) rfl) (e_sc (List.mem_of_getElem? (i := 3) rfl) (e_sc (List.mem_of_getElem? (i := 4) rfl) (e_sc (List.mem_of_getElem? (i := 5) rfl) (e_sc (List.mem_of_getElem? (i := 0) rfl) e_sn))))))
set_option maxRecDepth 100000 in
def w_Mod_behind_44 : Nat → Nat → Int32 → Int32 → Int32 → Int32 → Int32 → Int32 → eM → (eM → Prop) → Prop
  | 0, _, _, _, _, _, _, _, _, _ => False
  | n + 1, l0, l1, l2, l3, l4, l5, l6, M, Q => (16 ≤ l6 → e_ob M l0 12 ∧ e_ai M (gr M l0 29) l3 ∧ e_ob M l0 12 ∧ ∀ M6 : eM, M6 = e_si M l0 32 (gi M (gr M l0 29) l3.toNatClampNeg) → e_ob M6 l0 12 ∧ ((0 : Int32) = 0 ∨ (0 : Int32) = 1) ∧ ∀ M7 : eM, M7 = e_si M6 l0 33 (0 : Int32) → e_ob M7 l0 12 ∧ ((gi M7 l0 32) ≤ 0 → w_Mod_behind_114 l0 l1 l2 l4 l5 0 M7 Q) ∧ (¬ (gi M7 l0 32) ≤ 0 → e_ob M7 l0 12 ∧ e_ob M7 l0 12 ∧ e_ai M7 (gr M7 l0 31) (7 + (gi M7 l0 32)) ∧ w_Mod_behind_114 l0 l1 l2 l4 l5 (gi M7 (gr M7 l0 31) (7 + (gi M7 l0 32)).toNatClampNeg) M7 Q)) ∧ (¬ 16 ≤ l6 → e_ob M l0 12 ∧ e_ob M l0 12 ∧ e_ai M (gr M l0 30) ((16 * l3) + l6) ∧ e_ar M (gr M l0 31) 20 l6 ∧ ∀ M8 : eM, M8 = e_si M (gr M l0 31) l6.toNatClampNeg (gi M (gr M l0 30) ((16 * l3) + l6).toNatClampNeg) → (fun l0 l1 l2 l3 l4 l5 l6 M => w_Mod_behind_44 n l0 l1 l2 l3 l4 l5 l6 M Q ) l0 l1 l2 l3 l4 l5 (l6 + 1) M8)
set_option maxRecDepth 100000 in
theorem b_Mod_behind_44 {d : Nat} {Q : eM → Prop} (hd : 2 ≤ d) (n : Nat) : ∀ (l0 : Nat) (l1 : Int32) (l2 : Int32) (l3 : Int32) (l4 : Int32) (l5 : Int32) (l6 : Int32) (M : eM), w_Mod_behind_44 n l0 l1 l2 l3 l4 l5 l6 M Q → e_E 177 d 0 0 44 [(0, .ref l0), (1, .int l1), (2, .int l2), (3, .int l3), (4, .int l4), (5, .int l5), (6, .int l6)] [] M (e_QV Q) := by
  induction n with
  | zero => intro l0 l1 l2 l3 l4 l5 l6 M h; exact False.elim h
  | succ n ih =>
    intro l0 l1 l2 l3 l4 l5 l6 M h
    have hk44 := ih
    refine r_iload (kd177 rfl) rfl rfl ?_
    refine r_bipush (kd177 rfl) (y := 16) (by decide) rfl ?_
    refine r_icmp_ge (kd177 rfl) rfl (fun c => ?_) (fun c => ?_)
    · have h := h.1 c
      refine r_aload_n (kd177 rfl) rfl rfl ?_
      refine r_aload_n (kd177 rfl) rfl rfl ?_
      obtain ⟨g, h⟩ := h
      refine r_get2 (kd177 rfl) (by decide) rfl g rfl ?_
      refine r_iload_n (kd177 rfl) rfl rfl ?_
      obtain ⟨g, h⟩ := h
      refine r_iaload (kd177 rfl) g rfl ?_
      obtain ⟨g, h⟩ := h
      have h := h _ rfl
      refine r_put0 (kd177 rfl) (by decide) rfl g rfl ?_
      refine r_aload_n (kd177 rfl) rfl rfl ?_
      refine r_iconst (kd177 rfl) (y := 0) (by decide) rfl ?_
      obtain ⟨g, h⟩ := h
      obtain ⟨gb, h⟩ := h
      have h := h _ rfl
      refine r_put3 (kd177 rfl) (by decide) rfl g gb rfl ?_
      refine r_aload_n (kd177 rfl) rfl rfl ?_
      obtain ⟨g, h⟩ := h
      refine r_get0 (kd177 rfl) (by decide) rfl g rfl ?_
      refine r_if_le (kd177 rfl) rfl (fun c => ?_) (fun c => ?_)
      · have h := h.1 c
        refine r_iconst (kd177 rfl) (y := 0) (by decide) rfl ?_
        exact (b_Mod_behind_114 hd h).less (e_sc (List.mem_of_getElem? (i := 0) rfl) (e_sc (List.mem_of_getElem? (i := 1) rfl) (e_sc (List.mem_of_getElem? (i := 2) rfl) (e_sc (List.mem_of_getElem? (i := 4) rfl) (e_sc (List.mem_of_getElem? (i := 5) rfl) e_sn)))))
      · have h := h.2 c
        refine r_aload_n (kd177 rfl) rfl rfl ?_
        obtain ⟨g, h⟩ := h
        refine r_get2 (kd177 rfl) (by decide) rfl g rfl ?_
        refine r_bipush (kd177 rfl) (y := 7) (by decide) rfl ?_
        refine r_aload_n (kd177 rfl) rfl rfl ?_
        obtain ⟨g, h⟩ := h
        refine r_get0 (kd177 rfl) (by decide) rfl g rfl ?_
        refine r_iadd (kd177 rfl) rfl ?_
        obtain ⟨g, h⟩ := h
        refine r_iaload (kd177 rfl) g rfl ?_
        refine r_goto (kd177 rfl) ?_
        exact (b_Mod_behind_114 hd h).less (e_sc (List.mem_of_getElem? (i := 0) rfl) (e_sc (List.mem_of_getElem? (i := 1) rfl) (e_sc (List.mem_of_getElem? (i := 2) rfl) (e_sc (List.mem_of_getElem? (i := 4) rfl) (e_sc (List.mem_of_getElem? (i := 5) rfl) e_sn)))))
    · have h := h.2 c
      refine r_aload_n (kd177 rfl) rfl rfl ?_
      obtain ⟨g, h⟩ := h
      refine r_get2 (kd177 rfl) (by decide) rfl g rfl ?_
      refine r_iload (kd177 rfl) rfl rfl ?_
      refine r_aload_n (kd177 rfl) rfl rfl ?_
      obtain ⟨g, h⟩ := h
      refine r_get2 (kd177 rfl) (by decide) rfl g rfl ?_
      refine r_bipush (kd177 rfl) (y := 16) (by decide) rfl ?_
      refine r_iload_n (kd177 rfl) rfl rfl ?_
      refine r_imul (kd177 rfl) rfl ?_
      refine r_iload (kd177 rfl) rfl rfl ?_
      refine r_iadd (kd177 rfl) rfl ?_
      obtain ⟨g, h⟩ := h
      refine r_iaload (kd177 rfl) g rfl ?_
      obtain ⟨g, h⟩ := h
      have h := h _ rfl
      refine r_iastore (kd177 rfl) g rfl ?_
      refine r_iinc (kd177 rfl) rfl (y := 1) (by decide) L177 (by decide) rfl rfl ?_
      refine r_goto (kd177 rfl) ?_
      exact (hk44 _ _ _ _ _ _ _ _ h).less (e_sc (List.mem_of_getElem? (i := 1) rfl) (e_sc (List.mem_of_getElem? (i := 2) rfl) (e_sc (List.mem_of_getElem? (i := 3) rfl) (e_sc (List.mem_of_getElem? (i := 4) rfl) (e_sc (List.mem_of_getElem? (i := 5) rfl) (e_sc (List.mem_of_getElem? (i := 6) rfl) (e_sc (List.mem_of_getElem? (i := 0) rfl) e_sn)))))))
set_option maxRecDepth 100000 in
def w_Mod_behind_39 (l0 : Nat) (l1 : Int32) (l2 : Int32) (l3 : Int32) (l4 : Int32) (s0 : Int32) (M : eM) (Q : eM → Prop) : Prop := ∃ n5 : Nat, w_Mod_behind_44 n5 l0 l1 l2 l3 l4 s0 0 M Q
set_option maxRecDepth 100000 in
theorem b_Mod_behind_39 {d : Nat} {l0 : Nat} {l1 : Int32} {l2 : Int32} {l3 : Int32} {l4 : Int32} {s0 : Int32} {M : eM} {Q : eM → Prop} (hd : 2 ≤ d) (h : w_Mod_behind_39 l0 l1 l2 l3 l4 s0 M Q ) : e_E 177 d 0 0 39 [(0, .ref l0), (1, .int l1), (2, .int l2), (3, .int l3), (4, .int l4)] [.int s0] M (e_QV Q) := by
  unfold w_Mod_behind_39 at h
  refine r_istore (kd177 rfl) L177 (by decide) rfl rfl ?_
  refine r_iconst (kd177 rfl) (y := 0) (by decide) rfl ?_
  refine r_istore (kd177 rfl) L177 (by decide) rfl rfl ?_
  obtain ⟨n, h⟩ := h
  exact (b_Mod_behind_44 hd n _ _ _ _ _ _ _ _ h).less (e_sc (List.mem_of_getElem? (i := 2) rfl) (e_sc (List.mem_of_getElem? (i := 3) rfl) (e_sc (List.mem_of_getElem? (i := 4) rfl) (e_sc (List.mem_of_getElem? (i := 5) rfl) (e_sc (List.mem_of_getElem? (i := 6) rfl) (e_sc (List.mem_of_getElem? (i := 1) rfl) (e_sc (List.mem_of_getElem? (i := 0) rfl) e_sn)))))))
set_option maxRecDepth 100000 in
def w_Mod_behind (l0 : Nat) (l1 : Int32) (l2 : Int32) (M : eM) (Q : eM → Prop) : Prop := e_ob M l0 12 ∧ w_Mod_byteAt l0 l1 l2 M (fun (v2 : Int32) (M1 : eM) => e_ob M1 l0 12 ∧ e_ai M1 (gr M1 l0 25) l1 ∧ ((gi M1 (gr M1 l0 25) l1.toNatClampNeg) ≤ (l2 + 1) → w_Mod_behind_39 l0 l1 l2 ((120 * l1) + l2) v2 0 M1 Q) ∧ (¬ (gi M1 (gr M1 l0 25) l1.toNatClampNeg) ≤ (l2 + 1) → e_ob M1 l0 12 ∧ w_Mod_byteAt l0 l1 (l2 + 1) M1 (fun (v4 : Int32) (M3 : eM) => w_Mod_behind_39 l0 l1 l2 ((120 * l1) + l2) v2 v4 M3 Q)))
set_option maxRecDepth 100000 in
theorem b_Mod_behind {d : Nat} {l0 : Nat} {l1 : Int32} {l2 : Int32} {M : eM} {Q : eM → Prop} (hd : 2 ≤ d) (h : w_Mod_behind l0 l1 l2 M Q) : e_CV 177 d 0 0 [.ref l0, .int l1, .int l2] M Q := by
  unfold w_Mod_behind at h
  show e_E 177 d 0 0 0 [(0, .ref l0), (1, .int l1), (2, .int l2)] [] M (e_QV Q)
  refine r_bipush (kd177 rfl) (y := 120) (by decide) rfl ?_
  refine r_iload_n (kd177 rfl) rfl rfl ?_
  refine r_imul (kd177 rfl) rfl ?_
  refine r_iload_n (kd177 rfl) rfl rfl ?_
  refine r_iadd (kd177 rfl) rfl ?_
  refine r_istore_n (kd177 rfl) L177 (by decide) rfl rfl ?_
  refine r_aload_n (kd177 rfl) rfl rfl ?_
  refine r_iload_n (kd177 rfl) rfl rfl ?_
  refine r_iload_n (kd177 rfl) rfl rfl ?_
  obtain ⟨g, h⟩ := h
  refine r_callVI (d' := d - 1) (by omega) (kd177 rfl) (by decide) rfl rfl rfl rfl (Nat.le_of_ble_eq_true rfl) rfl L158 (Nat.le_of_ble_eq_true rfl) (Nat.le_of_ble_eq_true rfl) g (Nat.zero_le _) (Nat.zero_le _) rfl rfl rfl (b_Mod_byteAt (by omega) h) (fun x1 M1 h => ?_)
  refine r_istore (kd177 rfl) L177 (by decide) rfl rfl ?_
  refine r_aload_n (kd177 rfl) rfl rfl ?_
  obtain ⟨g, h⟩ := h
  refine r_get2 (kd177 rfl) (by decide) rfl g rfl ?_
  refine r_iload_n (kd177 rfl) rfl rfl ?_
  obtain ⟨g, h⟩ := h
  refine r_iaload (kd177 rfl) g rfl ?_
  refine r_iload_n (kd177 rfl) rfl rfl ?_
  refine r_iconst (kd177 rfl) (y := 1) (by decide) rfl ?_
  refine r_iadd (kd177 rfl) rfl ?_
  refine r_icmp_le (kd177 rfl) rfl (fun c => ?_) (fun c => ?_)
  · have h := h.1 c
    refine r_iconst (kd177 rfl) (y := 0) (by decide) rfl ?_
    exact (b_Mod_behind_39 hd h).less (e_sc (List.mem_of_getElem? (i := 2) rfl) (e_sc (List.mem_of_getElem? (i := 3) rfl) (e_sc (List.mem_of_getElem? (i := 4) rfl) (e_sc (List.mem_of_getElem? (i := 1) rfl) (e_sc (List.mem_of_getElem? (i := 0) rfl) e_sn)))))
  · have h := h.2 c
    refine r_aload_n (kd177 rfl) rfl rfl ?_
    refine r_iload_n (kd177 rfl) rfl rfl ?_
    refine r_iload_n (kd177 rfl) rfl rfl ?_
    refine r_iconst (kd177 rfl) (y := 1) (by decide) rfl ?_
    refine r_iadd (kd177 rfl) rfl ?_
    obtain ⟨g, h⟩ := h
    refine r_callVI (d' := d - 1) (by omega) (kd177 rfl) (by decide) rfl rfl rfl rfl (Nat.le_of_ble_eq_true rfl) rfl L158 (Nat.le_of_ble_eq_true rfl) (Nat.le_of_ble_eq_true rfl) g (Nat.zero_le _) (Nat.zero_le _) rfl rfl rfl (b_Mod_byteAt (by omega) h) (fun x1 M1 h => ?_)
    refine r_goto (kd177 rfl) ?_
    exact (b_Mod_behind_39 hd h).less (e_sc (List.mem_of_getElem? (i := 2) rfl) (e_sc (List.mem_of_getElem? (i := 3) rfl) (e_sc (List.mem_of_getElem? (i := 4) rfl) (e_sc (List.mem_of_getElem? (i := 1) rfl) (e_sc (List.mem_of_getElem? (i := 0) rfl) e_sn)))))
/-- TierMillModel.goOn(II)Z -/
theorem kd172 {pc : Nat} {q : eI} (h : e_d172.lookup pc = some q) : e_dec 172 pc = some q := h
theorem L172 : (e_m 172).2.2.1 = 8 := rfl
theorem R172 : (e_m 172).2.2.2.1 = (some .boolean) := rfl
set_option maxRecDepth 100000 in
def w_Mod_goOn_157 (l0 : Nat) (l1 : Int32) (l2 : Int32) (l3 : Int32) (l4 : Int32) (l6 : Int32) (s0 : Int32) (M : eM) (Q : Int32 → eM → Prop) (k103 : Nat → Int32 → Int32 → Int32 → Int32 → Int32 → Int32 → eM → Prop) : Prop := k103 l0 l1 l2 l3 l4 s0 (l6 + 1) M
set_option maxRecDepth 100000 in
theorem b_Mod_goOn_157 {d : Nat} {l0 : Nat} {l1 : Int32} {l2 : Int32} {l3 : Int32} {l4 : Int32} {l6 : Int32} {s0 : Int32} {M : eM} {Q : Int32 → eM → Prop} {k103 : Nat → Int32 → Int32 → Int32 → Int32 → Int32 → Int32 → eM → Prop} (hd : 4 ≤ d) (hk103 : ∀ (l0 : Nat) (l1 : Int32) (l2 : Int32) (l3 : Int32) (l4 : Int32) (l5 : Int32) (l6 : Int32) (M : eM), k103 l0 l1 l2 l3 l4 l5 l6 M → e_E 172 d 0 0 103 [(0, .ref l0), (1, .int l1), (2, .int l2), (3, .int l3), (4, .int l4), (5, .int l5), (6, .int l6)] [] M (e_QI Q)) (h : w_Mod_goOn_157 l0 l1 l2 l3 l4 l6 s0 M Q k103) : e_E 172 d 0 0 157 [(0, .ref l0), (1, .int l1), (2, .int l2), (3, .int l3), (4, .int l4), (6, .int l6)] [.int s0] M (e_QI Q) := by
  unfold w_Mod_goOn_157 at h
  refine r_istore (kd172 rfl) L172 (by decide) rfl rfl ?_
  refine r_iinc (kd172 rfl) rfl (y := 1) (by decide) L172 (by decide) rfl rfl ?_
  refine r_goto (kd172 rfl) ?_
  exact (hk103 _ _ _ _ _ _ _ _ h).less (e_sc (List.mem_of_getElem? (i := 2) rfl) (e_sc (List.mem_of_getElem? (i := 3) rfl) (e_sc (List.mem_of_getElem? (i := 4) rfl) (e_sc (List.mem_of_getElem? (i := 5) rfl) (e_sc (List.mem_of_getElem? (i := 6) rfl) (e_sc (List.mem_of_getElem? (i := 1) rfl) (e_sc (List.mem_of_getElem? (i := 0) rfl) e_sn)))))))
set_option maxRecDepth 100000 in
def w_Mod_goOn_152 (l0 : Nat) (l1 : Int32) (l2 : Int32) (l3 : Int32) (l4 : Int32) (l6 : Int32) (M : eM) (Q : Int32 → eM → Prop) (k103 : Nat → Int32 → Int32 → Int32 → Int32 → Int32 → Int32 → eM → Prop) : Prop := w_Mod_goOn_157 l0 l1 l2 l3 l4 l6 1 M Q k103
set_option maxRecDepth 100000 in
theorem b_Mod_goOn_152 {d : Nat} {l0 : Nat} {l1 : Int32} {l2 : Int32} {l3 : Int32} {l4 : Int32} {l6 : Int32} {M : eM} {Q : Int32 → eM → Prop} {k103 : Nat → Int32 → Int32 → Int32 → Int32 → Int32 → Int32 → eM → Prop} (hd : 4 ≤ d) (hk103 : ∀ (l0 : Nat) (l1 : Int32) (l2 : Int32) (l3 : Int32) (l4 : Int32) (l5 : Int32) (l6 : Int32) (M : eM), k103 l0 l1 l2 l3 l4 l5 l6 M → e_E 172 d 0 0 103 [(0, .ref l0), (1, .int l1), (2, .int l2), (3, .int l3), (4, .int l4), (5, .int l5), (6, .int l6)] [] M (e_QI Q)) (h : w_Mod_goOn_152 l0 l1 l2 l3 l4 l6 M Q k103) : e_E 172 d 0 0 152 [(0, .ref l0), (1, .int l1), (2, .int l2), (3, .int l3), (4, .int l4), (6, .int l6)] [] M (e_QI Q) := by
  unfold w_Mod_goOn_152 at h
  refine r_iconst (kd172 rfl) (y := 1) (by decide) rfl ?_
  refine r_goto (kd172 rfl) ?_
  exact (b_Mod_goOn_157 hd hk103 h).less (e_sc (List.mem_of_getElem? (i := 0) rfl) (e_sc (List.mem_of_getElem? (i := 1) rfl) (e_sc (List.mem_of_getElem? (i := 2) rfl) (e_sc (List.mem_of_getElem? (i := 3) rfl) (e_sc (List.mem_of_getElem? (i := 4) rfl) (e_sc (List.mem_of_getElem? (i := 5) rfl) e_sn))))))
set_option maxRecDepth 100000 in
def w_Mod_goOn_223 (l5 : Int32) (M : eM) (Q : Int32 → eM → Prop) : Prop := (l5 = 0 ∨ l5 = 1) ∧ Q l5 M
set_option maxRecDepth 100000 in
theorem b_Mod_goOn_223 {d : Nat} {l5 : Int32} {M : eM} {Q : Int32 → eM → Prop} (hd : 4 ≤ d) (h : w_Mod_goOn_223 l5 M Q ) : e_E 172 d 0 0 223 [(5, .int l5)] [] M (e_QI Q) := by
  unfold w_Mod_goOn_223 at h
  refine r_iload (kd172 rfl) rfl rfl ?_
  exact r_zreturn (kd172 rfl) R172 h.1 h.2
set_option maxRecDepth 100000 in
def w_Mod_goOn_221 (s0 : Int32) (M : eM) (Q : Int32 → eM → Prop) : Prop := w_Mod_goOn_223 s0 M Q
set_option maxRecDepth 100000 in
theorem b_Mod_goOn_221 {d : Nat} {s0 : Int32} {M : eM} {Q : Int32 → eM → Prop} (hd : 4 ≤ d) (h : w_Mod_goOn_221 s0 M Q ) : e_E 172 d 0 0 221 [] [.int s0] M (e_QI Q) := by
  unfold w_Mod_goOn_221 at h
  refine r_istore (kd172 rfl) L172 (by decide) rfl rfl ?_
  exact (b_Mod_goOn_223 hd h).less (e_sc (List.mem_of_getElem? (i := 0) rfl) e_sn)
set_option maxRecDepth 100000 in
def w_Mod_goOn_216 (M : eM) (Q : Int32 → eM → Prop) : Prop := w_Mod_goOn_221 1 M Q
set_option maxRecDepth 100000 in
theorem b_Mod_goOn_216 {d : Nat} {M : eM} {Q : Int32 → eM → Prop} (hd : 4 ≤ d) (h : w_Mod_goOn_216 M Q ) : e_E 172 d 0 0 216 [] [] M (e_QI Q) := by
  unfold w_Mod_goOn_216 at h
  refine r_iconst (kd172 rfl) (y := 1) (by decide) rfl ?_
  refine r_goto (kd172 rfl) ?_
  exact (b_Mod_goOn_221 hd h).less e_sn
set_option maxRecDepth 100000 in
def w_Mod_goOn_165 (l0 : Nat) (l1 : Int32) (l2 : Int32) (l3 : Int32) (l4 : Int32) (l5 : Int32) (M : eM) (Q : Int32 → eM → Prop) : Prop := (l3 = 21 → w_Mod_goOn_223 l5 M Q) ∧ (¬ l3 = 21 → (l3 = 49 → w_Mod_goOn_223 l5 M Q) ∧ (¬ l3 = 49 → (l3 = 50 → w_Mod_goOn_223 l5 M Q) ∧ (¬ l3 = 50 → (l3 = 53 → w_Mod_goOn_223 l5 M Q) ∧ (¬ l3 = 53 → e_ob M l0 12 ∧ w_Mod_longOf l0 l1 l2 M (fun (v16 : Int32) (M15 : eM) => e_ob M15 l0 12 ∧ w_Mod_merge l0 l1 (l2 + v16) l4 M15 (fun (v18 : Int32) (M17 : eM) => (¬ l5 = 0 → w_Mod_goOn_216 M17 Q) ∧ (l5 = 0 → (v18 = 0 → w_Mod_goOn_221 0 M17 Q) ∧ (¬ v18 = 0 → w_Mod_goOn_216 M17 Q))))))))
set_option maxRecDepth 100000 in
theorem b_Mod_goOn_165 {d : Nat} {l0 : Nat} {l1 : Int32} {l2 : Int32} {l3 : Int32} {l4 : Int32} {l5 : Int32} {M : eM} {Q : Int32 → eM → Prop} (hd : 4 ≤ d) (h : w_Mod_goOn_165 l0 l1 l2 l3 l4 l5 M Q ) : e_E 172 d 0 0 165 [(0, .ref l0), (1, .int l1), (2, .int l2), (3, .int l3), (4, .int l4), (5, .int l5)] [] M (e_QI Q) := by
  unfold w_Mod_goOn_165 at h
  refine r_iload_n (kd172 rfl) rfl rfl ?_
  refine r_bipush (kd172 rfl) (y := 21) (by decide) rfl ?_
  refine r_icmp_eq (kd172 rfl) rfl (fun c => ?_) (fun c => ?_)
  · have h := h.1 c
    exact (b_Mod_goOn_223 hd h).less (e_sc (List.mem_of_getElem? (i := 5) rfl) e_sn)
  · have h := h.2 c
    refine r_iload_n (kd172 rfl) rfl rfl ?_
    refine r_bipush (kd172 rfl) (y := 49) (by decide) rfl ?_
    refine r_icmp_eq (kd172 rfl) rfl (fun c => ?_) (fun c => ?_)
    · have h := h.1 c
      exact (b_Mod_goOn_223 hd h).less (e_sc (List.mem_of_getElem? (i := 5) rfl) e_sn)
    · have h := h.2 c
      refine r_iload_n (kd172 rfl) rfl rfl ?_
      refine r_bipush (kd172 rfl) (y := 50) (by decide) rfl ?_
      refine r_icmp_eq (kd172 rfl) rfl (fun c => ?_) (fun c => ?_)
      · have h := h.1 c
        exact (b_Mod_goOn_223 hd h).less (e_sc (List.mem_of_getElem? (i := 5) rfl) e_sn)
      · have h := h.2 c
        refine r_iload_n (kd172 rfl) rfl rfl ?_
        refine r_bipush (kd172 rfl) (y := 53) (by decide) rfl ?_
        refine r_icmp_eq (kd172 rfl) rfl (fun c => ?_) (fun c => ?_)
        · have h := h.1 c
          exact (b_Mod_goOn_223 hd h).less (e_sc (List.mem_of_getElem? (i := 5) rfl) e_sn)
        · have h := h.2 c
          refine r_aload_n (kd172 rfl) rfl rfl ?_
          refine r_iload_n (kd172 rfl) rfl rfl ?_
          refine r_iload_n (kd172 rfl) rfl rfl ?_
          refine r_aload_n (kd172 rfl) rfl rfl ?_
          refine r_iload_n (kd172 rfl) rfl rfl ?_
          refine r_iload_n (kd172 rfl) rfl rfl ?_
          obtain ⟨g, h⟩ := h
          refine r_callVI (d' := d - 1) (by omega) (kd172 rfl) (by decide) rfl rfl rfl rfl (Nat.le_of_ble_eq_true rfl) rfl L159 (Nat.le_of_ble_eq_true rfl) (Nat.le_of_ble_eq_true rfl) g (Nat.zero_le _) (Nat.zero_le _) rfl rfl rfl (b_Mod_longOf (by omega) h) (fun x1 M1 h => ?_)
          refine r_iadd (kd172 rfl) rfl ?_
          refine r_iload (kd172 rfl) rfl rfl ?_
          obtain ⟨g, h⟩ := h
          refine r_callVI (d' := d - 1) (by omega) (kd172 rfl) (by decide) rfl rfl rfl rfl (Nat.le_of_ble_eq_true rfl) rfl L170 (Nat.le_of_ble_eq_true rfl) (Nat.le_of_ble_eq_true rfl) g (Nat.zero_le _) (Nat.zero_le _) rfl rfl rfl (b_Mod_merge (by omega) h) (fun x1 M1 h => ?_)
          refine r_istore (kd172 rfl) L172 (by decide) rfl rfl ?_
          refine r_iload (kd172 rfl) rfl rfl ?_
          refine r_if_ne (kd172 rfl) rfl (fun c => ?_) (fun c => ?_)
          · have h := h.1 c
            exact (b_Mod_goOn_216 hd h).less e_sn
          · have h := h.2 c
            refine r_iload (kd172 rfl) rfl rfl ?_
            refine r_if_eq (kd172 rfl) rfl (fun c => ?_) (fun c => ?_)
            · have h := h.1 c
              refine r_iconst (kd172 rfl) (y := 0) (by decide) rfl ?_
              exact (b_Mod_goOn_221 hd h).less e_sn
            · have h := h.2 c
              exact (b_Mod_goOn_216 hd h).less e_sn
set_option maxRecDepth 100000 in
def w_Mod_goOn_103 : Nat → Nat → Int32 → Int32 → Int32 → Int32 → Int32 → Int32 → eM → (Int32 → eM → Prop) → Prop
  | 0, _, _, _, _, _, _, _, _, _ => False
  | n + 1, l0, l1, l2, l3, l4, l5, l6, M, Q => (¬ l3 = 53 → w_Mod_goOn_165 l0 l1 l2 l3 l4 l5 M Q) ∧ (l3 = 53 → e_ob M l0 12 ∧ w_Mod_byteAt l0 l1 (l2 + 1) M (fun (v10 : Int32) (M9 : eM) => (v10 < l6 → w_Mod_goOn_165 l0 l1 l2 l3 l4 l5 M9 Q) ∧ (¬ v10 < l6 → e_ob M9 l0 12 ∧ w_Mod_byteAt l0 l1 ((l2 + 2) + l6) M9 (fun (v12 : Int32) (M11 : eM) => e_ob M11 l0 12 ∧ w_Mod_merge l0 l1 v12 l4 M11 (fun (v14 : Int32) (M13 : eM) => (¬ l5 = 0 → w_Mod_goOn_152 l0 l1 l2 l3 l4 l6 M13 Q (fun l0 l1 l2 l3 l4 l5 l6 M => w_Mod_goOn_103 n l0 l1 l2 l3 l4 l5 l6 M Q )) ∧ (l5 = 0 → (v14 = 0 → w_Mod_goOn_157 l0 l1 l2 l3 l4 l6 0 M13 Q (fun l0 l1 l2 l3 l4 l5 l6 M => w_Mod_goOn_103 n l0 l1 l2 l3 l4 l5 l6 M Q )) ∧ (¬ v14 = 0 → w_Mod_goOn_152 l0 l1 l2 l3 l4 l6 M13 Q (fun l0 l1 l2 l3 l4 l5 l6 M => w_Mod_goOn_103 n l0 l1 l2 l3 l4 l5 l6 M Q ))))))))
set_option maxRecDepth 100000 in
theorem b_Mod_goOn_103 {d : Nat} {Q : Int32 → eM → Prop} (hd : 4 ≤ d) (n : Nat) : ∀ (l0 : Nat) (l1 : Int32) (l2 : Int32) (l3 : Int32) (l4 : Int32) (l5 : Int32) (l6 : Int32) (M : eM), w_Mod_goOn_103 n l0 l1 l2 l3 l4 l5 l6 M Q → e_E 172 d 0 0 103 [(0, .ref l0), (1, .int l1), (2, .int l2), (3, .int l3), (4, .int l4), (5, .int l5), (6, .int l6)] [] M (e_QI Q) := by
  induction n with
  | zero => intro l0 l1 l2 l3 l4 l5 l6 M h; exact False.elim h
  | succ n ih =>
    intro l0 l1 l2 l3 l4 l5 l6 M h
    have hk103 := ih
    refine r_iload_n (kd172 rfl) rfl rfl ?_
    refine r_bipush (kd172 rfl) (y := 53) (by decide) rfl ?_
    refine r_icmp_ne (kd172 rfl) rfl (fun c => ?_) (fun c => ?_)
    · have h := h.1 c
      exact (b_Mod_goOn_165 hd h).less (e_sc (List.mem_of_getElem? (i := 0) rfl) (e_sc (List.mem_of_getElem? (i := 1) rfl) (e_sc (List.mem_of_getElem? (i := 2) rfl) (e_sc (List.mem_of_getElem? (i := 3) rfl) (e_sc (List.mem_of_getElem? (i := 4) rfl) (e_sc (List.mem_of_getElem? (i := 5) rfl) e_sn))))))
    · have h := h.2 c
      refine r_iload (kd172 rfl) rfl rfl ?_
      refine r_aload_n (kd172 rfl) rfl rfl ?_
      refine r_iload_n (kd172 rfl) rfl rfl ?_
      refine r_iload_n (kd172 rfl) rfl rfl ?_
      refine r_iconst (kd172 rfl) (y := 1) (by decide) rfl ?_
      refine r_iadd (kd172 rfl) rfl ?_
      obtain ⟨g, h⟩ := h
      refine r_callVI (d' := d - 1) (by omega) (kd172 rfl) (by decide) rfl rfl rfl rfl (Nat.le_of_ble_eq_true rfl) rfl L158 (Nat.le_of_ble_eq_true rfl) (Nat.le_of_ble_eq_true rfl) g (Nat.zero_le _) (Nat.zero_le _) rfl rfl rfl (b_Mod_byteAt (by omega) h) (fun x1 M1 h => ?_)
      refine r_icmp_gt (kd172 rfl) rfl (fun c => ?_) (fun c => ?_)
      · have h := h.1 c
        exact (b_Mod_goOn_165 hd h).less (e_sc (List.mem_of_getElem? (i := 0) rfl) (e_sc (List.mem_of_getElem? (i := 1) rfl) (e_sc (List.mem_of_getElem? (i := 2) rfl) (e_sc (List.mem_of_getElem? (i := 3) rfl) (e_sc (List.mem_of_getElem? (i := 4) rfl) (e_sc (List.mem_of_getElem? (i := 5) rfl) e_sn))))))
      · have h := h.2 c
        refine r_aload_n (kd172 rfl) rfl rfl ?_
        refine r_iload_n (kd172 rfl) rfl rfl ?_
        refine r_aload_n (kd172 rfl) rfl rfl ?_
        refine r_iload_n (kd172 rfl) rfl rfl ?_
        refine r_iload_n (kd172 rfl) rfl rfl ?_
        refine r_iconst (kd172 rfl) (y := 2) (by decide) rfl ?_
        refine r_iadd (kd172 rfl) rfl ?_
        refine r_iload (kd172 rfl) rfl rfl ?_
        refine r_iadd (kd172 rfl) rfl ?_
        obtain ⟨g, h⟩ := h
        refine r_callVI (d' := d - 1) (by omega) (kd172 rfl) (by decide) rfl rfl rfl rfl (Nat.le_of_ble_eq_true rfl) rfl L158 (Nat.le_of_ble_eq_true rfl) (Nat.le_of_ble_eq_true rfl) g (Nat.zero_le _) (Nat.zero_le _) rfl rfl rfl (b_Mod_byteAt (by omega) h) (fun x1 M1 h => ?_)
        refine r_iload (kd172 rfl) rfl rfl ?_
        obtain ⟨g, h⟩ := h
        refine r_callVI (d' := d - 1) (by omega) (kd172 rfl) (by decide) rfl rfl rfl rfl (Nat.le_of_ble_eq_true rfl) rfl L170 (Nat.le_of_ble_eq_true rfl) (Nat.le_of_ble_eq_true rfl) g (Nat.zero_le _) (Nat.zero_le _) rfl rfl rfl (b_Mod_merge (by omega) h) (fun x1 M1 h => ?_)
        refine r_istore (kd172 rfl) L172 (by decide) rfl rfl ?_
        refine r_iload (kd172 rfl) rfl rfl ?_
        refine r_if_ne (kd172 rfl) rfl (fun c => ?_) (fun c => ?_)
        · have h := h.1 c
          exact (b_Mod_goOn_152 hd hk103 h).less (e_sc (List.mem_of_getElem? (i := 1) rfl) (e_sc (List.mem_of_getElem? (i := 2) rfl) (e_sc (List.mem_of_getElem? (i := 3) rfl) (e_sc (List.mem_of_getElem? (i := 4) rfl) (e_sc (List.mem_of_getElem? (i := 5) rfl) (e_sc (List.mem_of_getElem? (i := 7) rfl) e_sn))))))
        · have h := h.2 c
          refine r_iload (kd172 rfl) rfl rfl ?_
          refine r_if_eq (kd172 rfl) rfl (fun c => ?_) (fun c => ?_)
          · have h := h.1 c
            refine r_iconst (kd172 rfl) (y := 0) (by decide) rfl ?_
            exact (b_Mod_goOn_157 hd hk103 h).less (e_sc (List.mem_of_getElem? (i := 1) rfl) (e_sc (List.mem_of_getElem? (i := 2) rfl) (e_sc (List.mem_of_getElem? (i := 3) rfl) (e_sc (List.mem_of_getElem? (i := 4) rfl) (e_sc (List.mem_of_getElem? (i := 5) rfl) (e_sc (List.mem_of_getElem? (i := 7) rfl) e_sn))))))
          · have h := h.2 c
            exact (b_Mod_goOn_152 hd hk103 h).less (e_sc (List.mem_of_getElem? (i := 1) rfl) (e_sc (List.mem_of_getElem? (i := 2) rfl) (e_sc (List.mem_of_getElem? (i := 3) rfl) (e_sc (List.mem_of_getElem? (i := 4) rfl) (e_sc (List.mem_of_getElem? (i := 5) rfl) (e_sc (List.mem_of_getElem? (i := 7) rfl) e_sn))))))
set_option maxRecDepth 100000 in
def w_Mod_goOn_100 (l0 : Nat) (l1 : Int32) (l2 : Int32) (l3 : Int32) (l4 : Int32) (l5 : Int32) (M : eM) (Q : Int32 → eM → Prop) : Prop := ∃ n8 : Nat, w_Mod_goOn_103 n8 l0 l1 l2 l3 l4 l5 0 M Q
set_option maxRecDepth 100000 in
theorem b_Mod_goOn_100 {d : Nat} {l0 : Nat} {l1 : Int32} {l2 : Int32} {l3 : Int32} {l4 : Int32} {l5 : Int32} {M : eM} {Q : Int32 → eM → Prop} (hd : 4 ≤ d) (h : w_Mod_goOn_100 l0 l1 l2 l3 l4 l5 M Q ) : e_E 172 d 0 0 100 [(0, .ref l0), (1, .int l1), (2, .int l2), (3, .int l3), (4, .int l4), (5, .int l5)] [] M (e_QI Q) := by
  unfold w_Mod_goOn_100 at h
  refine r_iconst (kd172 rfl) (y := 0) (by decide) rfl ?_
  refine r_istore (kd172 rfl) L172 (by decide) rfl rfl ?_
  obtain ⟨n, h⟩ := h
  exact (b_Mod_goOn_103 hd n _ _ _ _ _ _ _ _ h).less (e_sc (List.mem_of_getElem? (i := 1) rfl) (e_sc (List.mem_of_getElem? (i := 2) rfl) (e_sc (List.mem_of_getElem? (i := 3) rfl) (e_sc (List.mem_of_getElem? (i := 4) rfl) (e_sc (List.mem_of_getElem? (i := 5) rfl) (e_sc (List.mem_of_getElem? (i := 6) rfl) (e_sc (List.mem_of_getElem? (i := 0) rfl) e_sn)))))))
set_option maxRecDepth 100000 in
def w_Mod_goOn_68 (l0 : Nat) (l1 : Int32) (l2 : Int32) (l3 : Int32) (l4 : Int32) (M : eM) (Q : Int32 → eM → Prop) : Prop := (l3 < 21 → w_Mod_goOn_100 l0 l1 l2 l3 l4 0 M Q) ∧ (¬ l3 < 21 → (37 < l3 → w_Mod_goOn_100 l0 l1 l2 l3 l4 0 M Q) ∧ (¬ 37 < l3 → e_ob M l0 12 ∧ w_Mod_byteAt l0 l1 (l2 + 1) M (fun (v5 : Int32) (M4 : eM) => e_ob M4 l0 12 ∧ w_Mod_merge l0 l1 v5 l4 M4 (fun (v7 : Int32) (M6 : eM) => w_Mod_goOn_100 l0 l1 l2 l3 l4 v7 M6 Q))))
set_option maxRecDepth 100000 in
theorem b_Mod_goOn_68 {d : Nat} {l0 : Nat} {l1 : Int32} {l2 : Int32} {l3 : Int32} {l4 : Int32} {M : eM} {Q : Int32 → eM → Prop} (hd : 4 ≤ d) (h : w_Mod_goOn_68 l0 l1 l2 l3 l4 M Q ) : e_E 172 d 0 0 68 [(0, .ref l0), (1, .int l1), (2, .int l2), (3, .int l3), (4, .int l4)] [] M (e_QI Q) := by
  unfold w_Mod_goOn_68 at h
  refine r_iconst (kd172 rfl) (y := 0) (by decide) rfl ?_
  refine r_istore (kd172 rfl) L172 (by decide) rfl rfl ?_
  refine r_iload_n (kd172 rfl) rfl rfl ?_
  refine r_bipush (kd172 rfl) (y := 21) (by decide) rfl ?_
  refine r_icmp_lt (kd172 rfl) rfl (fun c => ?_) (fun c => ?_)
  · have h := h.1 c
    exact (b_Mod_goOn_100 hd h).less (e_sc (List.mem_of_getElem? (i := 1) rfl) (e_sc (List.mem_of_getElem? (i := 2) rfl) (e_sc (List.mem_of_getElem? (i := 3) rfl) (e_sc (List.mem_of_getElem? (i := 4) rfl) (e_sc (List.mem_of_getElem? (i := 5) rfl) (e_sc (List.mem_of_getElem? (i := 0) rfl) e_sn))))))
  · have h := h.2 c
    refine r_iload_n (kd172 rfl) rfl rfl ?_
    refine r_bipush (kd172 rfl) (y := 37) (by decide) rfl ?_
    refine r_icmp_gt (kd172 rfl) rfl (fun c => ?_) (fun c => ?_)
    · have h := h.1 c
      exact (b_Mod_goOn_100 hd h).less (e_sc (List.mem_of_getElem? (i := 1) rfl) (e_sc (List.mem_of_getElem? (i := 2) rfl) (e_sc (List.mem_of_getElem? (i := 3) rfl) (e_sc (List.mem_of_getElem? (i := 4) rfl) (e_sc (List.mem_of_getElem? (i := 5) rfl) (e_sc (List.mem_of_getElem? (i := 0) rfl) e_sn))))))
    · have h := h.2 c
      refine r_aload_n (kd172 rfl) rfl rfl ?_
      refine r_iload_n (kd172 rfl) rfl rfl ?_
      refine r_aload_n (kd172 rfl) rfl rfl ?_
      refine r_iload_n (kd172 rfl) rfl rfl ?_
      refine r_iload_n (kd172 rfl) rfl rfl ?_
      refine r_iconst (kd172 rfl) (y := 1) (by decide) rfl ?_
      refine r_iadd (kd172 rfl) rfl ?_
      obtain ⟨g, h⟩ := h
      refine r_callVI (d' := d - 1) (by omega) (kd172 rfl) (by decide) rfl rfl rfl rfl (Nat.le_of_ble_eq_true rfl) rfl L158 (Nat.le_of_ble_eq_true rfl) (Nat.le_of_ble_eq_true rfl) g (Nat.zero_le _) (Nat.zero_le _) rfl rfl rfl (b_Mod_byteAt (by omega) h) (fun x1 M1 h => ?_)
      refine r_iload (kd172 rfl) rfl rfl ?_
      obtain ⟨g, h⟩ := h
      refine r_callVI (d' := d - 1) (by omega) (kd172 rfl) (by decide) rfl rfl rfl rfl (Nat.le_of_ble_eq_true rfl) rfl L170 (Nat.le_of_ble_eq_true rfl) (Nat.le_of_ble_eq_true rfl) g (Nat.zero_le _) (Nat.zero_le _) rfl rfl rfl (b_Mod_merge (by omega) h) (fun x1 M1 h => ?_)
      refine r_istore (kd172 rfl) L172 (by decide) rfl rfl ?_
      exact (b_Mod_goOn_100 hd h).less (e_sc (List.mem_of_getElem? (i := 1) rfl) (e_sc (List.mem_of_getElem? (i := 2) rfl) (e_sc (List.mem_of_getElem? (i := 3) rfl) (e_sc (List.mem_of_getElem? (i := 4) rfl) (e_sc (List.mem_of_getElem? (i := 5) rfl) (e_sc (List.mem_of_getElem? (i := 0) rfl) e_sn))))))
set_option maxRecDepth 100000 in
def w_Mod_goOn_66 (l0 : Nat) (l1 : Int32) (l2 : Int32) (l3 : Int32) (s0 : Int32) (M : eM) (Q : Int32 → eM → Prop) : Prop := w_Mod_goOn_68 l0 l1 l2 l3 s0 M Q
set_option maxRecDepth 100000 in
theorem b_Mod_goOn_66 {d : Nat} {l0 : Nat} {l1 : Int32} {l2 : Int32} {l3 : Int32} {s0 : Int32} {M : eM} {Q : Int32 → eM → Prop} (hd : 4 ≤ d) (h : w_Mod_goOn_66 l0 l1 l2 l3 s0 M Q ) : e_E 172 d 0 0 66 [(0, .ref l0), (1, .int l1), (2, .int l2), (3, .int l3)] [.int s0] M (e_QI Q) := by
  unfold w_Mod_goOn_66 at h
  refine r_istore (kd172 rfl) L172 (by decide) rfl rfl ?_
  exact (b_Mod_goOn_68 hd h).less (e_sc (List.mem_of_getElem? (i := 1) rfl) (e_sc (List.mem_of_getElem? (i := 2) rfl) (e_sc (List.mem_of_getElem? (i := 3) rfl) (e_sc (List.mem_of_getElem? (i := 4) rfl) (e_sc (List.mem_of_getElem? (i := 0) rfl) e_sn)))))
set_option maxRecDepth 100000 in
def w_Mod_goOn_61 (l0 : Nat) (l1 : Int32) (l2 : Int32) (l3 : Int32) (M : eM) (Q : Int32 → eM → Prop) : Prop := w_Mod_goOn_66 l0 l1 l2 l3 1 M Q
set_option maxRecDepth 100000 in
theorem b_Mod_goOn_61 {d : Nat} {l0 : Nat} {l1 : Int32} {l2 : Int32} {l3 : Int32} {M : eM} {Q : Int32 → eM → Prop} (hd : 4 ≤ d) (h : w_Mod_goOn_61 l0 l1 l2 l3 M Q ) : e_E 172 d 0 0 61 [(0, .ref l0), (1, .int l1), (2, .int l2), (3, .int l3)] [] M (e_QI Q) := by
  unfold w_Mod_goOn_61 at h
  refine r_iconst (kd172 rfl) (y := 1) (by decide) rfl ?_
  refine r_goto (kd172 rfl) ?_
  exact (b_Mod_goOn_66 hd h).less (e_sc (List.mem_of_getElem? (i := 0) rfl) (e_sc (List.mem_of_getElem? (i := 1) rfl) (e_sc (List.mem_of_getElem? (i := 2) rfl) (e_sc (List.mem_of_getElem? (i := 3) rfl) e_sn))))
set_option maxRecDepth 100000 in
def w_Mod_goOn_28 (l0 : Nat) (l1 : Int32) (l2 : Int32) (l3 : Int32) (s0 : Int32) (M : eM) (Q : Int32 → eM → Prop) : Prop := (¬ s0 = 0 → w_Mod_goOn_68 l0 l1 l2 l3 s0 M Q) ∧ (s0 = 0 → e_ob M l0 12 ∧ w_Mod_behind l0 l1 l2 M (fun (M3 : eM) => e_ob M3 l0 12 ∧ (¬ (gi M3 l0 33) = 0 → w_Mod_goOn_61 l0 l1 l2 l3 M3 Q) ∧ ((gi M3 l0 33) = 0 → e_ob M3 l0 12 ∧ e_ob M3 l0 12 ∧ e_ai M3 (gr M3 l0 24) l1 ∧ ((gi M3 l0 32) ≤ (gi M3 (gr M3 l0 24) l1.toNatClampNeg) → w_Mod_goOn_66 l0 l1 l2 l3 0 M3 Q) ∧ (¬ (gi M3 l0 32) ≤ (gi M3 (gr M3 l0 24) l1.toNatClampNeg) → w_Mod_goOn_61 l0 l1 l2 l3 M3 Q))))
set_option maxRecDepth 100000 in
theorem b_Mod_goOn_28 {d : Nat} {l0 : Nat} {l1 : Int32} {l2 : Int32} {l3 : Int32} {s0 : Int32} {M : eM} {Q : Int32 → eM → Prop} (hd : 4 ≤ d) (h : w_Mod_goOn_28 l0 l1 l2 l3 s0 M Q ) : e_E 172 d 0 0 28 [(0, .ref l0), (1, .int l1), (2, .int l2), (3, .int l3)] [.int s0] M (e_QI Q) := by
  unfold w_Mod_goOn_28 at h
  refine r_istore (kd172 rfl) L172 (by decide) rfl rfl ?_
  refine r_iload (kd172 rfl) rfl rfl ?_
  refine r_if_ne (kd172 rfl) rfl (fun c => ?_) (fun c => ?_)
  · have h := h.1 c
    exact (b_Mod_goOn_68 hd h).less (e_sc (List.mem_of_getElem? (i := 1) rfl) (e_sc (List.mem_of_getElem? (i := 2) rfl) (e_sc (List.mem_of_getElem? (i := 3) rfl) (e_sc (List.mem_of_getElem? (i := 4) rfl) (e_sc (List.mem_of_getElem? (i := 0) rfl) e_sn)))))
  · have h := h.2 c
    refine r_aload_n (kd172 rfl) rfl rfl ?_
    refine r_iload_n (kd172 rfl) rfl rfl ?_
    refine r_iload_n (kd172 rfl) rfl rfl ?_
    obtain ⟨g, h⟩ := h
    refine r_callVV (d' := d - 1) (by omega) (kd172 rfl) (by decide) rfl rfl rfl rfl (Nat.le_of_ble_eq_true rfl) rfl L177 (Nat.le_of_ble_eq_true rfl) (Nat.le_of_ble_eq_true rfl) g (Nat.zero_le _) (Nat.zero_le _) rfl rfl rfl (b_Mod_behind (by omega) h) (fun M1 h => ?_)
    refine r_aload_n (kd172 rfl) rfl rfl ?_
    obtain ⟨g, h⟩ := h
    refine r_get3 (kd172 rfl) (by decide) rfl g rfl ?_
    refine r_if_ne (kd172 rfl) rfl (fun c => ?_) (fun c => ?_)
    · have h := h.1 c
      exact (b_Mod_goOn_61 hd h).less (e_sc (List.mem_of_getElem? (i := 1) rfl) (e_sc (List.mem_of_getElem? (i := 2) rfl) (e_sc (List.mem_of_getElem? (i := 3) rfl) (e_sc (List.mem_of_getElem? (i := 4) rfl) e_sn))))
    · have h := h.2 c
      refine r_aload_n (kd172 rfl) rfl rfl ?_
      obtain ⟨g, h⟩ := h
      refine r_get0 (kd172 rfl) (by decide) rfl g rfl ?_
      refine r_aload_n (kd172 rfl) rfl rfl ?_
      obtain ⟨g, h⟩ := h
      refine r_get2 (kd172 rfl) (by decide) rfl g rfl ?_
      refine r_iload_n (kd172 rfl) rfl rfl ?_
      obtain ⟨g, h⟩ := h
      refine r_iaload (kd172 rfl) g rfl ?_
      refine r_icmp_le (kd172 rfl) rfl (fun c => ?_) (fun c => ?_)
      · have h := h.1 c
        refine r_iconst (kd172 rfl) (y := 0) (by decide) rfl ?_
        exact (b_Mod_goOn_66 hd h).less (e_sc (List.mem_of_getElem? (i := 1) rfl) (e_sc (List.mem_of_getElem? (i := 2) rfl) (e_sc (List.mem_of_getElem? (i := 3) rfl) (e_sc (List.mem_of_getElem? (i := 4) rfl) e_sn))))
      · have h := h.2 c
        exact (b_Mod_goOn_61 hd h).less (e_sc (List.mem_of_getElem? (i := 1) rfl) (e_sc (List.mem_of_getElem? (i := 2) rfl) (e_sc (List.mem_of_getElem? (i := 3) rfl) (e_sc (List.mem_of_getElem? (i := 4) rfl) e_sn))))
set_option maxRecDepth 100000 in
def w_Mod_goOn (l0 : Nat) (l1 : Int32) (l2 : Int32) (M : eM) (Q : Int32 → eM → Prop) : Prop := e_ob M l0 12 ∧ w_Mod_byteAt l0 l1 l2 M (fun (v2 : Int32) (M1 : eM) => e_ob M1 l0 12 ∧ e_ai M1 (gr M1 l0 29) ((120 * l1) + l2) ∧ (¬ (gi M1 (gr M1 l0 29) ((120 * l1) + l2).toNatClampNeg) = (-2) → w_Mod_goOn_28 l0 l1 l2 v2 0 M1 Q) ∧ ((gi M1 (gr M1 l0 29) ((120 * l1) + l2).toNatClampNeg) = (-2) → w_Mod_goOn_28 l0 l1 l2 v2 1 M1 Q))
set_option maxRecDepth 100000 in
theorem b_Mod_goOn {d : Nat} {l0 : Nat} {l1 : Int32} {l2 : Int32} {M : eM} {Q : Int32 → eM → Prop} (hd : 4 ≤ d) (h : w_Mod_goOn l0 l1 l2 M Q) : e_CI 172 d 0 0 [.ref l0, .int l1, .int l2] M Q := by
  unfold w_Mod_goOn at h
  show e_E 172 d 0 0 0 [(0, .ref l0), (1, .int l1), (2, .int l2)] [] M (e_QI Q)
  refine r_aload_n (kd172 rfl) rfl rfl ?_
  refine r_iload_n (kd172 rfl) rfl rfl ?_
  refine r_iload_n (kd172 rfl) rfl rfl ?_
  obtain ⟨g, h⟩ := h
  refine r_callVI (d' := d - 1) (by omega) (kd172 rfl) (by decide) rfl rfl rfl rfl (Nat.le_of_ble_eq_true rfl) rfl L158 (Nat.le_of_ble_eq_true rfl) (Nat.le_of_ble_eq_true rfl) g (Nat.zero_le _) (Nat.zero_le _) rfl rfl rfl (b_Mod_byteAt (by omega) h) (fun x1 M1 h => ?_)
  refine r_istore_n (kd172 rfl) L172 (by decide) rfl rfl ?_
  refine r_aload_n (kd172 rfl) rfl rfl ?_
  obtain ⟨g, h⟩ := h
  refine r_get2 (kd172 rfl) (by decide) rfl g rfl ?_
  refine r_bipush (kd172 rfl) (y := 120) (by decide) rfl ?_
  refine r_iload_n (kd172 rfl) rfl rfl ?_
  refine r_imul (kd172 rfl) rfl ?_
  refine r_iload_n (kd172 rfl) rfl rfl ?_
  refine r_iadd (kd172 rfl) rfl ?_
  obtain ⟨g, h⟩ := h
  refine r_iaload (kd172 rfl) g rfl ?_
  refine r_bipush (kd172 rfl) (y := (-2)) (by decide) rfl ?_
  refine r_icmp_ne (kd172 rfl) rfl (fun c => ?_) (fun c => ?_)
  · have h := h.1 c
    refine r_iconst (kd172 rfl) (y := 0) (by decide) rfl ?_
    exact (b_Mod_goOn_28 hd h).less (e_sc (List.mem_of_getElem? (i := 1) rfl) (e_sc (List.mem_of_getElem? (i := 2) rfl) (e_sc (List.mem_of_getElem? (i := 3) rfl) (e_sc (List.mem_of_getElem? (i := 0) rfl) e_sn))))
  · have h := h.2 c
    refine r_iconst (kd172 rfl) (y := 1) (by decide) rfl ?_
    refine r_goto (kd172 rfl) ?_
    exact (b_Mod_goOn_28 hd h).less (e_sc (List.mem_of_getElem? (i := 1) rfl) (e_sc (List.mem_of_getElem? (i := 2) rfl) (e_sc (List.mem_of_getElem? (i := 3) rfl) (e_sc (List.mem_of_getElem? (i := 0) rfl) e_sn))))
/-- TierMillModel.flow(I)V -/
theorem kd171 {pc : Nat} {q : eI} (h : e_d171.lookup pc = some q) : e_dec 171 pc = some q := h
theorem L171 : (e_m 171).2.2.1 = 5 := rfl
theorem R171 : (e_m 171).2.2.2.1 = none := rfl
def w_Mod_flow_63 (l0 : Nat) (l1 : Int32) (l2 : Int32) (s0 : Int32) (s1 : Int32) (s2 : Nat) (M : eM) (Q : eM → Prop) (k28 : Nat → Int32 → Int32 → eM → Prop) : Prop := e_ar M s2 20 s1 ∧ ∀ M8 : eM, M8 = e_si M s2 s1.toNatClampNeg s0 → k28 l0 l1 (l2 + 1) M8
theorem b_Mod_flow_63 {d : Nat} {l0 : Nat} {l1 : Int32} {l2 : Int32} {s0 : Int32} {s1 : Int32} {s2 : Nat} {M : eM} {Q : eM → Prop} {k28 : Nat → Int32 → Int32 → eM → Prop} (hd : 5 ≤ d) (hk28 : ∀ (l0 : Nat) (l1 : Int32) (l2 : Int32) (M : eM), k28 l0 l1 l2 M → e_E 171 d 0 0 28 [(0, .ref l0), (1, .int l1), (2, .int l2)] [] M (e_QV Q)) (h : w_Mod_flow_63 l0 l1 l2 s0 s1 s2 M Q k28) : e_E 171 d 0 0 63 [(0, .ref l0), (1, .int l1), (2, .int l2)] [.int s0, .int s1, .ref s2] M (e_QV Q) := by
  unfold w_Mod_flow_63 at h
  obtain ⟨g, h⟩ := h
  have h := h _ rfl
  refine r_iastore (kd171 rfl) g rfl ?_
  refine r_iinc (kd171 rfl) rfl (y := 1) (by decide) L171 (by decide) rfl rfl ?_
  refine r_goto (kd171 rfl) ?_
  exact (hk28 _ _ _ _ h).less (e_sc (List.mem_of_getElem? (i := 1) rfl) (e_sc (List.mem_of_getElem? (i := 2) rfl) (e_sc (List.mem_of_getElem? (i := 0) rfl) e_sn)))
def w_Mod_flow_142 (l0 : Nat) (l1 : Int32) (l2 : Int32) (l3 : Int32) (M : eM) (Q : eM → Prop) (k83 : Nat → Int32 → Int32 → eM → Prop) (k91 : Nat → Int32 → Int32 → Int32 → eM → Prop) : Prop := k91 l0 l1 l2 (l3 + 1) M
theorem b_Mod_flow_142 {d : Nat} {l0 : Nat} {l1 : Int32} {l2 : Int32} {l3 : Int32} {M : eM} {Q : eM → Prop} {k83 : Nat → Int32 → Int32 → eM → Prop} {k91 : Nat → Int32 → Int32 → Int32 → eM → Prop} (hd : 5 ≤ d) (hk83 : ∀ (l0 : Nat) (l1 : Int32) (l2 : Int32) (M : eM), k83 l0 l1 l2 M → e_E 171 d 0 0 83 [(0, .ref l0), (1, .int l1), (2, .int l2)] [] M (e_QV Q)) (hk91 : ∀ (l0 : Nat) (l1 : Int32) (l2 : Int32) (l3 : Int32) (M : eM), k91 l0 l1 l2 l3 M → e_E 171 d 0 0 91 [(0, .ref l0), (1, .int l1), (2, .int l2), (3, .int l3)] [] M (e_QV Q)) (h : w_Mod_flow_142 l0 l1 l2 l3 M Q k83 k91) : e_E 171 d 0 0 142 [(0, .ref l0), (1, .int l1), (2, .int l2), (3, .int l3)] [] M (e_QV Q) := by
  unfold w_Mod_flow_142 at h
  refine r_iinc (kd171 rfl) rfl (y := 1) (by decide) L171 (by decide) rfl rfl ?_
  refine r_goto (kd171 rfl) ?_
  exact (hk91 _ _ _ _ _ h).less (e_sc (List.mem_of_getElem? (i := 1) rfl) (e_sc (List.mem_of_getElem? (i := 2) rfl) (e_sc (List.mem_of_getElem? (i := 3) rfl) (e_sc (List.mem_of_getElem? (i := 0) rfl) e_sn))))
def w_Mod_flow_141 (l0 : Nat) (l1 : Int32) (l3 : Int32) (s0 : Int32) (M : eM) (Q : eM → Prop) (k83 : Nat → Int32 → Int32 → eM → Prop) (k91 : Nat → Int32 → Int32 → Int32 → eM → Prop) : Prop := w_Mod_flow_142 l0 l1 s0 l3 M Q k83 k91
theorem b_Mod_flow_141 {d : Nat} {l0 : Nat} {l1 : Int32} {l3 : Int32} {s0 : Int32} {M : eM} {Q : eM → Prop} {k83 : Nat → Int32 → Int32 → eM → Prop} {k91 : Nat → Int32 → Int32 → Int32 → eM → Prop} (hd : 5 ≤ d) (hk83 : ∀ (l0 : Nat) (l1 : Int32) (l2 : Int32) (M : eM), k83 l0 l1 l2 M → e_E 171 d 0 0 83 [(0, .ref l0), (1, .int l1), (2, .int l2)] [] M (e_QV Q)) (hk91 : ∀ (l0 : Nat) (l1 : Int32) (l2 : Int32) (l3 : Int32) (M : eM), k91 l0 l1 l2 l3 M → e_E 171 d 0 0 91 [(0, .ref l0), (1, .int l1), (2, .int l2), (3, .int l3)] [] M (e_QV Q)) (h : w_Mod_flow_141 l0 l1 l3 s0 M Q k83 k91) : e_E 171 d 0 0 141 [(0, .ref l0), (1, .int l1), (3, .int l3)] [.int s0] M (e_QV Q) := by
  unfold w_Mod_flow_141 at h
  refine r_istore_n (kd171 rfl) L171 (by decide) rfl rfl ?_
  exact (b_Mod_flow_142 hd hk83 hk91 h).less (e_sc (List.mem_of_getElem? (i := 1) rfl) (e_sc (List.mem_of_getElem? (i := 2) rfl) (e_sc (List.mem_of_getElem? (i := 0) rfl) (e_sc (List.mem_of_getElem? (i := 3) rfl) e_sn))))
def w_Mod_flow_136 (l0 : Nat) (l1 : Int32) (l3 : Int32) (M : eM) (Q : eM → Prop) (k83 : Nat → Int32 → Int32 → eM → Prop) (k91 : Nat → Int32 → Int32 → Int32 → eM → Prop) : Prop := w_Mod_flow_141 l0 l1 l3 1 M Q k83 k91
theorem b_Mod_flow_136 {d : Nat} {l0 : Nat} {l1 : Int32} {l3 : Int32} {M : eM} {Q : eM → Prop} {k83 : Nat → Int32 → Int32 → eM → Prop} {k91 : Nat → Int32 → Int32 → Int32 → eM → Prop} (hd : 5 ≤ d) (hk83 : ∀ (l0 : Nat) (l1 : Int32) (l2 : Int32) (M : eM), k83 l0 l1 l2 M → e_E 171 d 0 0 83 [(0, .ref l0), (1, .int l1), (2, .int l2)] [] M (e_QV Q)) (hk91 : ∀ (l0 : Nat) (l1 : Int32) (l2 : Int32) (l3 : Int32) (M : eM), k91 l0 l1 l2 l3 M → e_E 171 d 0 0 91 [(0, .ref l0), (1, .int l1), (2, .int l2), (3, .int l3)] [] M (e_QV Q)) (h : w_Mod_flow_136 l0 l1 l3 M Q k83 k91) : e_E 171 d 0 0 136 [(0, .ref l0), (1, .int l1), (3, .int l3)] [] M (e_QV Q) := by
  unfold w_Mod_flow_136 at h
  refine r_iconst (kd171 rfl) (y := 1) (by decide) rfl ?_
  refine r_goto (kd171 rfl) ?_
  exact (b_Mod_flow_141 hd hk83 hk91 h).less (e_sc (List.mem_of_getElem? (i := 0) rfl) (e_sc (List.mem_of_getElem? (i := 1) rfl) (e_sc (List.mem_of_getElem? (i := 2) rfl) e_sn)))
def w_Mod_flow_91 : Nat → Nat → Int32 → Int32 → Int32 → eM → (eM → Prop) → (Nat → Int32 → Int32 → eM → Prop) → Prop
  | 0, _, _, _, _, _, _, _ => False
  | n + 1, l0, l1, l2, l3, M, Q, k83 => e_ob M l0 12 ∧ e_ai M (gr M l0 25) l1 ∧ ((gi M (gr M l0 25) l1.toNatClampNeg) ≤ l3 → k83 l0 l1 l2 M) ∧ (¬ (gi M (gr M l0 25) l1.toNatClampNeg) ≤ l3 → e_ob M l0 12 ∧ e_ai M (gr M l0 29) ((120 * l1) + l3) ∧ (¬ (gi M (gr M l0 29) ((120 * l1) + l3).toNatClampNeg) = (-1) → e_ob M l0 12 ∧ w_Mod_goOn l0 l1 l3 M (fun (v11 : Int32) (M10 : eM) => (¬ l2 = 0 → w_Mod_flow_136 l0 l1 l3 M10 Q k83 (fun l0 l1 l2 l3 M => w_Mod_flow_91 n l0 l1 l2 l3 M Q k83)) ∧ (l2 = 0 → (v11 = 0 → w_Mod_flow_141 l0 l1 l3 0 M10 Q k83 (fun l0 l1 l2 l3 M => w_Mod_flow_91 n l0 l1 l2 l3 M Q k83)) ∧ (¬ v11 = 0 → w_Mod_flow_136 l0 l1 l3 M10 Q k83 (fun l0 l1 l2 l3 M => w_Mod_flow_91 n l0 l1 l2 l3 M Q k83))))) ∧ ((gi M (gr M l0 29) ((120 * l1) + l3).toNatClampNeg) = (-1) → w_Mod_flow_142 l0 l1 l2 l3 M Q k83 (fun l0 l1 l2 l3 M => w_Mod_flow_91 n l0 l1 l2 l3 M Q k83)))
theorem b_Mod_flow_91 {d : Nat} {Q : eM → Prop} {k83 : Nat → Int32 → Int32 → eM → Prop} (hd : 5 ≤ d) (n : Nat) (hk83 : ∀ (l0 : Nat) (l1 : Int32) (l2 : Int32) (M : eM), k83 l0 l1 l2 M → e_E 171 d 0 0 83 [(0, .ref l0), (1, .int l1), (2, .int l2)] [] M (e_QV Q)) : ∀ (l0 : Nat) (l1 : Int32) (l2 : Int32) (l3 : Int32) (M : eM), w_Mod_flow_91 n l0 l1 l2 l3 M Q k83 → e_E 171 d 0 0 91 [(0, .ref l0), (1, .int l1), (2, .int l2), (3, .int l3)] [] M (e_QV Q) := by
  induction n with
  | zero => intro l0 l1 l2 l3 M h; exact False.elim h
  | succ n ih =>
    intro l0 l1 l2 l3 M h
    have hk91 := ih
    refine r_iload_n (kd171 rfl) rfl rfl ?_
    refine r_aload_n (kd171 rfl) rfl rfl ?_
    obtain ⟨g, h⟩ := h
    refine r_get2 (kd171 rfl) (by decide) rfl g rfl ?_
    refine r_iload_n (kd171 rfl) rfl rfl ?_
    obtain ⟨g, h⟩ := h
    refine r_iaload (kd171 rfl) g rfl ?_
    refine r_icmp_ge (kd171 rfl) rfl (fun c => ?_) (fun c => ?_)
    · have h := h.1 c
      refine r_goto (kd171 rfl) ?_
      exact (hk83 _ _ _ _ h).less (e_sc (List.mem_of_getElem? (i := 0) rfl) (e_sc (List.mem_of_getElem? (i := 1) rfl) (e_sc (List.mem_of_getElem? (i := 2) rfl) e_sn)))
    · have h := h.2 c
      refine r_aload_n (kd171 rfl) rfl rfl ?_
      obtain ⟨g, h⟩ := h
      refine r_get2 (kd171 rfl) (by decide) rfl g rfl ?_
      refine r_bipush (kd171 rfl) (y := 120) (by decide) rfl ?_
      refine r_iload_n (kd171 rfl) rfl rfl ?_
      refine r_imul (kd171 rfl) rfl ?_
      refine r_iload_n (kd171 rfl) rfl rfl ?_
      refine r_iadd (kd171 rfl) rfl ?_
      obtain ⟨g, h⟩ := h
      refine r_iaload (kd171 rfl) g rfl ?_
      refine r_iconst (kd171 rfl) (y := (-1)) (by decide) rfl ?_
      refine r_icmp_ne (kd171 rfl) rfl (fun c => ?_) (fun c => ?_)
      · have h := h.1 c
        refine r_aload_n (kd171 rfl) rfl rfl ?_
        refine r_iload_n (kd171 rfl) rfl rfl ?_
        refine r_iload_n (kd171 rfl) rfl rfl ?_
        obtain ⟨g, h⟩ := h
        refine r_callVI (d' := d - 1) (by omega) (kd171 rfl) (by decide) rfl rfl rfl rfl (Nat.le_of_ble_eq_true rfl) rfl L172 (Nat.le_of_ble_eq_true rfl) (Nat.le_of_ble_eq_true rfl) g (Nat.zero_le _) (Nat.zero_le _) rfl rfl rfl (b_Mod_goOn (by omega) h) (fun x1 M1 h => ?_)
        refine r_istore (kd171 rfl) L171 (by decide) rfl rfl ?_
        refine r_iload_n (kd171 rfl) rfl rfl ?_
        refine r_if_ne (kd171 rfl) rfl (fun c => ?_) (fun c => ?_)
        · have h := h.1 c
          exact (b_Mod_flow_136 hd hk83 hk91 h).less (e_sc (List.mem_of_getElem? (i := 1) rfl) (e_sc (List.mem_of_getElem? (i := 2) rfl) (e_sc (List.mem_of_getElem? (i := 4) rfl) e_sn)))
        · have h := h.2 c
          refine r_iload (kd171 rfl) rfl rfl ?_
          refine r_if_eq (kd171 rfl) rfl (fun c => ?_) (fun c => ?_)
          · have h := h.1 c
            refine r_iconst (kd171 rfl) (y := 0) (by decide) rfl ?_
            exact (b_Mod_flow_141 hd hk83 hk91 h).less (e_sc (List.mem_of_getElem? (i := 1) rfl) (e_sc (List.mem_of_getElem? (i := 2) rfl) (e_sc (List.mem_of_getElem? (i := 4) rfl) e_sn)))
          · have h := h.2 c
            exact (b_Mod_flow_136 hd hk83 hk91 h).less (e_sc (List.mem_of_getElem? (i := 1) rfl) (e_sc (List.mem_of_getElem? (i := 2) rfl) (e_sc (List.mem_of_getElem? (i := 4) rfl) e_sn)))
      · have h := h.2 c
        refine r_goto (kd171 rfl) ?_
        exact (b_Mod_flow_142 hd hk83 hk91 h).less (e_sc (List.mem_of_getElem? (i := 0) rfl) (e_sc (List.mem_of_getElem? (i := 1) rfl) (e_sc (List.mem_of_getElem? (i := 2) rfl) (e_sc (List.mem_of_getElem? (i := 3) rfl) e_sn))))
def w_Mod_flow_83 : Nat → Nat → Int32 → Int32 → eM → (eM → Prop) → Prop
  | 0, _, _, _, _, _ => False
  | n + 1, l0, l1, l2, M, Q => (l2 = 0 → Q M) ∧ (¬ l2 = 0 → ∃ n9 : Nat, w_Mod_flow_91 n9 l0 l1 0 0 M Q (fun l0 l1 l2 M => w_Mod_flow_83 n l0 l1 l2 M Q ))
theorem b_Mod_flow_83 {d : Nat} {Q : eM → Prop} (hd : 5 ≤ d) (n : Nat) : ∀ (l0 : Nat) (l1 : Int32) (l2 : Int32) (M : eM), w_Mod_flow_83 n l0 l1 l2 M Q → e_E 171 d 0 0 83 [(0, .ref l0), (1, .int l1), (2, .int l2)] [] M (e_QV Q) := by
  induction n with
  | zero => intro l0 l1 l2 M h; exact False.elim h
  | succ n ih =>
    intro l0 l1 l2 M h
    have hk83 := ih
    refine r_iload_n (kd171 rfl) rfl rfl ?_
    refine r_if_eq (kd171 rfl) rfl (fun c => ?_) (fun c => ?_)
    · have h := h.1 c
      exact r_return (kd171 rfl) R171 h
    · have h := h.2 c
      refine r_iconst (kd171 rfl) (y := 0) (by decide) rfl ?_
      refine r_istore_n (kd171 rfl) L171 (by decide) rfl rfl ?_
      refine r_iconst (kd171 rfl) (y := 0) (by decide) rfl ?_
      refine r_istore_n (kd171 rfl) L171 (by decide) rfl rfl ?_
      obtain ⟨n, h⟩ := h
      exact (b_Mod_flow_91 hd n hk83 _ _ _ _ _ h).less (e_sc (List.mem_of_getElem? (i := 2) rfl) (e_sc (List.mem_of_getElem? (i := 3) rfl) (e_sc (List.mem_of_getElem? (i := 1) rfl) (e_sc (List.mem_of_getElem? (i := 0) rfl) e_sn))))
def w_Mod_flow_28 : Nat → Nat → Int32 → Int32 → eM → (eM → Prop) → Prop
  | 0, _, _, _, _, _ => False
  | n + 1, l0, l1, l2, M, Q => (16 ≤ l2 → e_ob M l0 12 ∧ ∀ M4 : eM, M4 = e_si M l0 32 0 → e_ob M4 l0 12 ∧ w_Mod_merge l0 l1 0 0 M4 (fun (v6 : Int32) (M5 : eM) => ∃ n7 : Nat, w_Mod_flow_83 n7 l0 l1 v6 M5 Q)) ∧ (¬ 16 ≤ l2 → e_ob M l0 12 ∧ e_ob M l0 12 ∧ e_ai M (gr M l0 20) l1 ∧ ((gi M (gr M l0 20) l1.toNatClampNeg) ≤ l2 → w_Mod_flow_63 l0 l1 l2 0 l2 (gr M l0 31) M Q (fun l0 l1 l2 M => w_Mod_flow_28 n l0 l1 l2 M Q )) ∧ (¬ (gi M (gr M l0 20) l1.toNatClampNeg) ≤ l2 → e_ob M l0 12 ∧ e_ai M (gr M l0 21) ((4 * l1) + l2) ∧ w_Mod_flow_63 l0 l1 l2 (gi M (gr M l0 21) ((4 * l1) + l2).toNatClampNeg) l2 (gr M l0 31) M Q (fun l0 l1 l2 M => w_Mod_flow_28 n l0 l1 l2 M Q )))
theorem b_Mod_flow_28 {d : Nat} {Q : eM → Prop} (hd : 5 ≤ d) (n : Nat) : ∀ (l0 : Nat) (l1 : Int32) (l2 : Int32) (M : eM), w_Mod_flow_28 n l0 l1 l2 M Q → e_E 171 d 0 0 28 [(0, .ref l0), (1, .int l1), (2, .int l2)] [] M (e_QV Q) := by
  induction n with
  | zero => intro l0 l1 l2 M h; exact False.elim h
  | succ n ih =>
    intro l0 l1 l2 M h
    have hk28 := ih
    refine r_iload_n (kd171 rfl) rfl rfl ?_
    refine r_bipush (kd171 rfl) (y := 16) (by decide) rfl ?_
    refine r_icmp_ge (kd171 rfl) rfl (fun c => ?_) (fun c => ?_)
    · have h := h.1 c
      refine r_aload_n (kd171 rfl) rfl rfl ?_
      refine r_iconst (kd171 rfl) (y := 0) (by decide) rfl ?_
      obtain ⟨g, h⟩ := h
      have h := h _ rfl
      refine r_put0 (kd171 rfl) (by decide) rfl g rfl ?_
      refine r_aload_n (kd171 rfl) rfl rfl ?_
      refine r_iload_n (kd171 rfl) rfl rfl ?_
      refine r_iconst (kd171 rfl) (y := 0) (by decide) rfl ?_
      refine r_iconst (kd171 rfl) (y := 0) (by decide) rfl ?_
      obtain ⟨g, h⟩ := h
      refine r_callVI (d' := d - 1) (by omega) (kd171 rfl) (by decide) rfl rfl rfl rfl (Nat.le_of_ble_eq_true rfl) rfl L170 (Nat.le_of_ble_eq_true rfl) (Nat.le_of_ble_eq_true rfl) g (Nat.zero_le _) (Nat.zero_le _) rfl rfl rfl (b_Mod_merge (by omega) h) (fun x1 M1 h => ?_)
      refine r_istore_n (kd171 rfl) L171 (by decide) rfl rfl ?_
      obtain ⟨n, h⟩ := h
      exact (b_Mod_flow_83 hd n _ _ _ _ h).less (e_sc (List.mem_of_getElem? (i := 1) rfl) (e_sc (List.mem_of_getElem? (i := 2) rfl) (e_sc (List.mem_of_getElem? (i := 0) rfl) e_sn)))
    · have h := h.2 c
      refine r_aload_n (kd171 rfl) rfl rfl ?_
      obtain ⟨g, h⟩ := h
      refine r_get2 (kd171 rfl) (by decide) rfl g rfl ?_
      refine r_iload_n (kd171 rfl) rfl rfl ?_
      refine r_iload_n (kd171 rfl) rfl rfl ?_
      refine r_aload_n (kd171 rfl) rfl rfl ?_
      obtain ⟨g, h⟩ := h
      refine r_get2 (kd171 rfl) (by decide) rfl g rfl ?_
      refine r_iload_n (kd171 rfl) rfl rfl ?_
      obtain ⟨g, h⟩ := h
      refine r_iaload (kd171 rfl) g rfl ?_
      refine r_icmp_ge (kd171 rfl) rfl (fun c => ?_) (fun c => ?_)
      · have h := h.1 c
        refine r_iconst (kd171 rfl) (y := 0) (by decide) rfl ?_
        exact (b_Mod_flow_63 hd hk28 h).less (e_sc (List.mem_of_getElem? (i := 0) rfl) (e_sc (List.mem_of_getElem? (i := 1) rfl) (e_sc (List.mem_of_getElem? (i := 2) rfl) e_sn)))
      · have h := h.2 c
        refine r_aload_n (kd171 rfl) rfl rfl ?_
        obtain ⟨g, h⟩ := h
        refine r_get2 (kd171 rfl) (by decide) rfl g rfl ?_
        refine r_iconst (kd171 rfl) (y := 4) (by decide) rfl ?_
        refine r_iload_n (kd171 rfl) rfl rfl ?_
        refine r_imul (kd171 rfl) rfl ?_
        refine r_iload_n (kd171 rfl) rfl rfl ?_
        refine r_iadd (kd171 rfl) rfl ?_
        obtain ⟨g, h⟩ := h
        refine r_iaload (kd171 rfl) g rfl ?_
        refine r_goto (kd171 rfl) ?_
        exact (b_Mod_flow_63 hd hk28 h).less (e_sc (List.mem_of_getElem? (i := 0) rfl) (e_sc (List.mem_of_getElem? (i := 1) rfl) (e_sc (List.mem_of_getElem? (i := 2) rfl) e_sn)))
def w_Mod_flow_2 : Nat → Nat → Int32 → Int32 → eM → (eM → Prop) → Prop
  | 0, _, _, _, _, _ => False
  | n + 1, l0, l1, l2, M, Q => (120 ≤ l2 → ∃ n2 : Nat, w_Mod_flow_28 n2 l0 l1 0 M Q) ∧ (¬ 120 ≤ l2 → e_ob M l0 12 ∧ e_ar M (gr M l0 29) 20 ((120 * l1) + l2) ∧ ∀ M3 : eM, M3 = e_si M (gr M l0 29) ((120 * l1) + l2).toNatClampNeg (-1) → (fun l0 l1 l2 M => w_Mod_flow_2 n l0 l1 l2 M Q ) l0 l1 (l2 + 1) M3)
theorem b_Mod_flow_2 {d : Nat} {Q : eM → Prop} (hd : 5 ≤ d) (n : Nat) : ∀ (l0 : Nat) (l1 : Int32) (l2 : Int32) (M : eM), w_Mod_flow_2 n l0 l1 l2 M Q → e_E 171 d 0 0 2 [(0, .ref l0), (1, .int l1), (2, .int l2)] [] M (e_QV Q) := by
  induction n with
  | zero => intro l0 l1 l2 M h; exact False.elim h
  | succ n ih =>
    intro l0 l1 l2 M h
    have hk2 := ih
    refine r_iload_n (kd171 rfl) rfl rfl ?_
    refine r_bipush (kd171 rfl) (y := 120) (by decide) rfl ?_
    refine r_icmp_ge (kd171 rfl) rfl (fun c => ?_) (fun c => ?_)
    · have h := h.1 c
      refine r_iconst (kd171 rfl) (y := 0) (by decide) rfl ?_
      refine r_istore_n (kd171 rfl) L171 (by decide) rfl rfl ?_
      obtain ⟨n, h⟩ := h
      exact (b_Mod_flow_28 hd n _ _ _ _ h).less (e_sc (List.mem_of_getElem? (i := 1) rfl) (e_sc (List.mem_of_getElem? (i := 2) rfl) (e_sc (List.mem_of_getElem? (i := 0) rfl) e_sn)))
    · have h := h.2 c
      refine r_aload_n (kd171 rfl) rfl rfl ?_
      obtain ⟨g, h⟩ := h
      refine r_get2 (kd171 rfl) (by decide) rfl g rfl ?_
      refine r_bipush (kd171 rfl) (y := 120) (by decide) rfl ?_
      refine r_iload_n (kd171 rfl) rfl rfl ?_
      refine r_imul (kd171 rfl) rfl ?_
      refine r_iload_n (kd171 rfl) rfl rfl ?_
      refine r_iadd (kd171 rfl) rfl ?_
      refine r_iconst (kd171 rfl) (y := (-1)) (by decide) rfl ?_
      obtain ⟨g, h⟩ := h
      have h := h _ rfl
      refine r_iastore (kd171 rfl) g rfl ?_
      refine r_iinc (kd171 rfl) rfl (y := 1) (by decide) L171 (by decide) rfl rfl ?_
      refine r_goto (kd171 rfl) ?_
      exact (hk2 _ _ _ _ h).less (e_sc (List.mem_of_getElem? (i := 1) rfl) (e_sc (List.mem_of_getElem? (i := 2) rfl) (e_sc (List.mem_of_getElem? (i := 0) rfl) e_sn)))
def w_Mod_flow (l0 : Nat) (l1 : Int32) (M : eM) (Q : eM → Prop) : Prop := ∃ n1 : Nat, w_Mod_flow_2 n1 l0 l1 0 M Q
theorem b_Mod_flow {d : Nat} {l0 : Nat} {l1 : Int32} {M : eM} {Q : eM → Prop} (hd : 5 ≤ d) (h : w_Mod_flow l0 l1 M Q) : e_CV 171 d 0 0 [.ref l0, .int l1] M Q := by
  unfold w_Mod_flow at h
  show e_E 171 d 0 0 0 [(0, .ref l0), (1, .int l1)] [] M (e_QV Q)
  refine r_iconst (kd171 rfl) (y := 0) (by decide) rfl ?_
  refine r_istore_n (kd171 rfl) L171 (by decide) rfl rfl ?_
  obtain ⟨n, h⟩ := h
  exact (b_Mod_flow_2 hd n _ _ _ _ h).less (e_sc (List.mem_of_getElem? (i := 1) rfl) (e_sc (List.mem_of_getElem? (i := 2) rfl) (e_sc (List.mem_of_getElem? (i := 0) rfl) e_sn)))
/-- TierMillModel.resolve(II)I -/
theorem kd168 {pc : Nat} {q : eI} (h : e_d168.lookup pc = some q) : e_dec 168 pc = some q := h
theorem L168 : (e_m 168).2.2.1 = 4 := rfl
theorem R168 : (e_m 168).2.2.2.1 = (some .int) := rfl
def w_Mod_resolve_2 : Nat → Nat → Int32 → Int32 → eM → (Int32 → eM → Prop) → Prop
  | 0, _, _, _, _, _ => False
  | n + 1, l0, l2, l3, M, Q => (l3 < 0 → Q ((-1) : Int32) M) ∧ (¬ l3 < 0 → e_ob M l0 12 ∧ e_ai M (gr M l0 28) ((8 * l3) + l2) ∧ ((gi M (gr M l0 28) ((8 * l3) + l2).toNatClampNeg) ≤ 0 → e_ob M l0 12 ∧ e_ai M (gr M l0 12) l3 ∧ (fun l0 l2 l3 M => w_Mod_resolve_2 n l0 l2 l3 M Q ) l0 l2 (gi M (gr M l0 12) l3.toNatClampNeg) M) ∧ (¬ (gi M (gr M l0 28) ((8 * l3) + l2).toNatClampNeg) ≤ 0 → e_ob M l0 12 ∧ e_ai M (gr M l0 28) ((8 * l3) + l2) ∧ Q ((gi M (gr M l0 28) ((8 * l3) + l2).toNatClampNeg) - 1) M))
theorem b_Mod_resolve_2 {d : Nat} {Q : Int32 → eM → Prop} (hd : 0 ≤ d) (n : Nat) : ∀ (l0 : Nat) (l2 : Int32) (l3 : Int32) (M : eM), w_Mod_resolve_2 n l0 l2 l3 M Q → e_E 168 d 0 0 2 [(0, .ref l0), (2, .int l2), (3, .int l3)] [] M (e_QI Q) := by
  induction n with
  | zero => intro l0 l2 l3 M h; exact False.elim h
  | succ n ih =>
    intro l0 l2 l3 M h
    have hk2 := ih
    refine r_iload_n (kd168 rfl) rfl rfl ?_
    refine r_if_lt (kd168 rfl) rfl (fun c => ?_) (fun c => ?_)
    · have h := h.1 c
      refine r_iconst (kd168 rfl) (y := (-1)) (by decide) rfl ?_
      exact r_ireturn (kd168 rfl) R168 h
    · have h := h.2 c
      refine r_aload_n (kd168 rfl) rfl rfl ?_
      obtain ⟨g, h⟩ := h
      refine r_get2 (kd168 rfl) (by decide) rfl g rfl ?_
      refine r_bipush (kd168 rfl) (y := 8) (by decide) rfl ?_
      refine r_iload_n (kd168 rfl) rfl rfl ?_
      refine r_imul (kd168 rfl) rfl ?_
      refine r_iload_n (kd168 rfl) rfl rfl ?_
      refine r_iadd (kd168 rfl) rfl ?_
      obtain ⟨g, h⟩ := h
      refine r_iaload (kd168 rfl) g rfl ?_
      refine r_if_le (kd168 rfl) rfl (fun c => ?_) (fun c => ?_)
      · have h := h.1 c
        refine r_aload_n (kd168 rfl) rfl rfl ?_
        obtain ⟨g, h⟩ := h
        refine r_get2 (kd168 rfl) (by decide) rfl g rfl ?_
        refine r_iload_n (kd168 rfl) rfl rfl ?_
        obtain ⟨g, h⟩ := h
        refine r_iaload (kd168 rfl) g rfl ?_
        refine r_istore_n (kd168 rfl) L168 (by decide) rfl rfl ?_
        refine r_goto (kd168 rfl) ?_
        exact (hk2 _ _ _ _ h).less (e_sc (List.mem_of_getElem? (i := 1) rfl) (e_sc (List.mem_of_getElem? (i := 2) rfl) (e_sc (List.mem_of_getElem? (i := 0) rfl) e_sn)))
      · have h := h.2 c
        refine r_aload_n (kd168 rfl) rfl rfl ?_
        obtain ⟨g, h⟩ := h
        refine r_get2 (kd168 rfl) (by decide) rfl g rfl ?_
        refine r_bipush (kd168 rfl) (y := 8) (by decide) rfl ?_
        refine r_iload_n (kd168 rfl) rfl rfl ?_
        refine r_imul (kd168 rfl) rfl ?_
        refine r_iload_n (kd168 rfl) rfl rfl ?_
        refine r_iadd (kd168 rfl) rfl ?_
        obtain ⟨g, h⟩ := h
        refine r_iaload (kd168 rfl) g rfl ?_
        refine r_iconst (kd168 rfl) (y := 1) (by decide) rfl ?_
        refine r_isub (kd168 rfl) rfl ?_
        exact r_ireturn (kd168 rfl) R168 h
def w_Mod_resolve (l0 : Nat) (l1 : Int32) (l2 : Int32) (M : eM) (Q : Int32 → eM → Prop) : Prop := ∃ n1 : Nat, w_Mod_resolve_2 n1 l0 l2 l1 M Q
theorem b_Mod_resolve {d : Nat} {l0 : Nat} {l1 : Int32} {l2 : Int32} {M : eM} {Q : Int32 → eM → Prop} (hd : 0 ≤ d) (h : w_Mod_resolve l0 l1 l2 M Q) : e_CI 168 d 0 0 [.ref l0, .int l1, .int l2] M Q := by
  unfold w_Mod_resolve at h
  show e_E 168 d 0 0 0 [(0, .ref l0), (1, .int l1), (2, .int l2)] [] M (e_QI Q)
  refine r_iload_n (kd168 rfl) rfl rfl ?_
  refine r_istore_n (kd168 rfl) L168 (by decide) rfl rfl ?_
  obtain ⟨n, h⟩ := h
  exact (b_Mod_resolve_2 hd n _ _ _ _ h).less (e_sc (List.mem_of_getElem? (i := 1) rfl) (e_sc (List.mem_of_getElem? (i := 3) rfl) (e_sc (List.mem_of_getElem? (i := 0) rfl) e_sn)))
/-- TierMillModel.fits(II)Z -/
theorem kd178 {pc : Nat} {q : eI} (h : e_d178.lookup pc = some q) : e_dec 178 pc = some q := h
theorem L178 : (e_m 178).2.2.1 = 3 := rfl
theorem R178 : (e_m 178).2.2.2.1 = (some .boolean) := rfl
def w_Mod_fits_47 (s0 : Int32) (M : eM) (Q : Int32 → eM → Prop) : Prop := (s0 = 0 ∨ s0 = 1) ∧ Q s0 M
theorem b_Mod_fits_47 {d : Nat} {s0 : Int32} {M : eM} {Q : Int32 → eM → Prop} (hd : 1 ≤ d) (h : w_Mod_fits_47 s0 M Q ) : e_E 178 d 0 0 47 [] [.int s0] M (e_QI Q) := by
  unfold w_Mod_fits_47 at h
  exact r_zreturn (kd178 rfl) R178 h.1 h.2
def w_Mod_fits_42 (M : eM) (Q : Int32 → eM → Prop) : Prop := w_Mod_fits_47 1 M Q
theorem b_Mod_fits_42 {d : Nat} {M : eM} {Q : Int32 → eM → Prop} (hd : 1 ≤ d) (h : w_Mod_fits_42 M Q ) : e_E 178 d 0 0 42 [] [] M (e_QI Q) := by
  unfold w_Mod_fits_42 at h
  refine r_iconst (kd178 rfl) (y := 1) (by decide) rfl ?_
  refine r_goto (kd178 rfl) ?_
  exact (b_Mod_fits_47 hd h).less e_sn
def w_Mod_fits_46 (M : eM) (Q : Int32 → eM → Prop) : Prop := w_Mod_fits_47 0 M Q
theorem b_Mod_fits_46 {d : Nat} {M : eM} {Q : Int32 → eM → Prop} (hd : 1 ≤ d) (h : w_Mod_fits_46 M Q ) : e_E 178 d 0 0 46 [] [] M (e_QI Q) := by
  unfold w_Mod_fits_46 at h
  refine r_iconst (kd178 rfl) (y := 0) (by decide) rfl ?_
  exact (b_Mod_fits_47 hd h).less e_sn
def w_Mod_fits_15 (l0 : Nat) (l1 : Int32) (l2 : Int32) (M : eM) (Q : Int32 → eM → Prop) : Prop := (l1 < 16 → w_Mod_fits_46 M Q) ∧ (¬ l1 < 16 → (l2 < 16 → w_Mod_fits_46 M Q) ∧ (¬ l2 < 16 → e_ob M l0 12 ∧ w_Mod_isBelow l0 (l1 - 16) (l2 - 16) M (fun (v2 : Int32) (M1 : eM) => (v2 = 0 → w_Mod_fits_46 M1 Q) ∧ (¬ v2 = 0 → w_Mod_fits_42 M1 Q))))
theorem b_Mod_fits_15 {d : Nat} {l0 : Nat} {l1 : Int32} {l2 : Int32} {M : eM} {Q : Int32 → eM → Prop} (hd : 1 ≤ d) (h : w_Mod_fits_15 l0 l1 l2 M Q ) : e_E 178 d 0 0 15 [(0, .ref l0), (1, .int l1), (2, .int l2)] [] M (e_QI Q) := by
  unfold w_Mod_fits_15 at h
  refine r_iload_n (kd178 rfl) rfl rfl ?_
  refine r_bipush (kd178 rfl) (y := 16) (by decide) rfl ?_
  refine r_icmp_lt (kd178 rfl) rfl (fun c => ?_) (fun c => ?_)
  · have h := h.1 c
    exact (b_Mod_fits_46 hd h).less e_sn
  · have h := h.2 c
    refine r_iload_n (kd178 rfl) rfl rfl ?_
    refine r_bipush (kd178 rfl) (y := 16) (by decide) rfl ?_
    refine r_icmp_lt (kd178 rfl) rfl (fun c => ?_) (fun c => ?_)
    · have h := h.1 c
      exact (b_Mod_fits_46 hd h).less e_sn
    · have h := h.2 c
      refine r_aload_n (kd178 rfl) rfl rfl ?_
      refine r_iload_n (kd178 rfl) rfl rfl ?_
      refine r_bipush (kd178 rfl) (y := 16) (by decide) rfl ?_
      refine r_isub (kd178 rfl) rfl ?_
      refine r_iload_n (kd178 rfl) rfl rfl ?_
      refine r_bipush (kd178 rfl) (y := 16) (by decide) rfl ?_
      refine r_isub (kd178 rfl) rfl ?_
      obtain ⟨g, h⟩ := h
      refine r_callVI (d' := d - 1) (by omega) (kd178 rfl) (by decide) rfl rfl rfl rfl (Nat.le_of_ble_eq_true rfl) rfl L152 (Nat.le_of_ble_eq_true rfl) (Nat.le_of_ble_eq_true rfl) g (Nat.zero_le _) (Nat.zero_le _) rfl rfl rfl (b_Mod_isBelow (by omega) h) (fun x1 M1 h => ?_)
      refine r_if_eq (kd178 rfl) rfl (fun c => ?_) (fun c => ?_)
      · have h := h.1 c
        exact (b_Mod_fits_46 hd h).less e_sn
      · have h := h.2 c
        exact (b_Mod_fits_42 hd h).less e_sn
def w_Mod_fits (l0 : Nat) (l1 : Int32) (l2 : Int32) (M : eM) (Q : Int32 → eM → Prop) : Prop := (l1 = l2 → w_Mod_fits_42 M Q) ∧ (¬ l1 = l2 → (¬ l1 = 3 → w_Mod_fits_15 l0 l1 l2 M Q) ∧ (l1 = 3 → (¬ l2 = 1 → w_Mod_fits_42 M Q) ∧ (l2 = 1 → w_Mod_fits_15 l0 l1 l2 M Q)))
theorem b_Mod_fits {d : Nat} {l0 : Nat} {l1 : Int32} {l2 : Int32} {M : eM} {Q : Int32 → eM → Prop} (hd : 1 ≤ d) (h : w_Mod_fits l0 l1 l2 M Q) : e_CI 178 d 0 0 [.ref l0, .int l1, .int l2] M Q := by
  unfold w_Mod_fits at h
  show e_E 178 d 0 0 0 [(0, .ref l0), (1, .int l1), (2, .int l2)] [] M (e_QI Q)
  refine r_iload_n (kd178 rfl) rfl rfl ?_
  refine r_iload_n (kd178 rfl) rfl rfl ?_
  refine r_icmp_eq (kd178 rfl) rfl (fun c => ?_) (fun c => ?_)
  · have h := h.1 c
    exact (b_Mod_fits_42 hd h).less e_sn
  · have h := h.2 c
    refine r_iload_n (kd178 rfl) rfl rfl ?_
    refine r_iconst (kd178 rfl) (y := 3) (by decide) rfl ?_
    refine r_icmp_ne (kd178 rfl) rfl (fun c => ?_) (fun c => ?_)
    · have h := h.1 c
      exact (b_Mod_fits_15 hd h).less (e_sc (List.mem_of_getElem? (i := 0) rfl) (e_sc (List.mem_of_getElem? (i := 1) rfl) (e_sc (List.mem_of_getElem? (i := 2) rfl) e_sn)))
    · have h := h.2 c
      refine r_iload_n (kd178 rfl) rfl rfl ?_
      refine r_iconst (kd178 rfl) (y := 1) (by decide) rfl ?_
      refine r_icmp_ne (kd178 rfl) rfl (fun c => ?_) (fun c => ?_)
      · have h := h.1 c
        exact (b_Mod_fits_42 hd h).less e_sn
      · have h := h.2 c
        exact (b_Mod_fits_15 hd h).less (e_sc (List.mem_of_getElem? (i := 0) rfl) (e_sc (List.mem_of_getElem? (i := 1) rfl) (e_sc (List.mem_of_getElem? (i := 2) rfl) e_sn)))
/-- TierMillModel.isThing(I)Z -/
theorem kd179 {pc : Nat} {q : eI} (h : e_d179.lookup pc = some q) : e_dec 179 pc = some q := h
theorem L179 : (e_m 179).2.2.1 = 1 := rfl
theorem R179 : (e_m 179).2.2.2.1 = (some .boolean) := rfl
def w_Mod_isThing_14 (s0 : Int32) (M : eM) (Q : Int32 → eM → Prop) : Prop := (s0 = 0 ∨ s0 = 1) ∧ Q s0 M
theorem b_Mod_isThing_14 {d : Nat} {s0 : Int32} {M : eM} {Q : Int32 → eM → Prop} (hd : 0 ≤ d) (h : w_Mod_isThing_14 s0 M Q ) : e_E 179 d 0 0 14 [] [.int s0] M (e_QI Q) := by
  unfold w_Mod_isThing_14 at h
  exact r_zreturn (kd179 rfl) R179 h.1 h.2
def w_Mod_isThing_13 (M : eM) (Q : Int32 → eM → Prop) : Prop := w_Mod_isThing_14 0 M Q
theorem b_Mod_isThing_13 {d : Nat} {M : eM} {Q : Int32 → eM → Prop} (hd : 0 ≤ d) (h : w_Mod_isThing_13 M Q ) : e_E 179 d 0 0 13 [] [] M (e_QI Q) := by
  unfold w_Mod_isThing_13 at h
  refine r_iconst (kd179 rfl) (y := 0) (by decide) rfl ?_
  exact (b_Mod_isThing_14 hd h).less e_sn
def w_Mod_isThing (l0 : Int32) (M : eM) (Q : Int32 → eM → Prop) : Prop := (l0 = 1 → w_Mod_isThing_13 M Q) ∧ (¬ l0 = 1 → (l0 = 0 → w_Mod_isThing_13 M Q) ∧ (¬ l0 = 0 → w_Mod_isThing_14 1 M Q))
theorem b_Mod_isThing {d : Nat} {l0 : Int32} {M : eM} {Q : Int32 → eM → Prop} (hd : 0 ≤ d) (h : w_Mod_isThing l0 M Q) : e_CI 179 d 0 0 [.int l0] M Q := by
  unfold w_Mod_isThing at h
  show e_E 179 d 0 0 0 [(0, .int l0)] [] M (e_QI Q)
  refine r_iload_n (kd179 rfl) rfl rfl ?_
  refine r_iconst (kd179 rfl) (y := 1) (by decide) rfl ?_
  refine r_icmp_eq (kd179 rfl) rfl (fun c => ?_) (fun c => ?_)
  · have h := h.1 c
    exact (b_Mod_isThing_13 hd h).less e_sn
  · have h := h.2 c
    refine r_iload_n (kd179 rfl) rfl rfl ?_
    refine r_if_eq (kd179 rfl) rfl (fun c => ?_) (fun c => ?_)
    · have h := h.1 c
      exact (b_Mod_isThing_13 hd h).less e_sn
    · have h := h.2 c
      refine r_iconst (kd179 rfl) (y := 1) (by decide) rfl ?_
      refine r_goto (kd179 rfl) ?_
      exact (b_Mod_isThing_14 hd h).less e_sn
/-- TierMillModel.isWrong(II)Z -/
theorem kd180 {pc : Nat} {q : eI} (h : e_d180.lookup pc = some q) : e_dec 180 pc = some q := h
theorem L180 : (e_m 180).2.2.1 = 11 := rfl
theorem R180 : (e_m 180).2.2.2.1 = (some .boolean) := rfl
set_option maxRecDepth 100000 in
def w_Mod_isWrong_46 (M : eM) (Q : Int32 → eM → Prop) : Prop := ((1 : Int32) = 0 ∨ (1 : Int32) = 1) ∧ Q (1 : Int32) M
set_option maxRecDepth 100000 in
theorem b_Mod_isWrong_46 {d : Nat} {M : eM} {Q : Int32 → eM → Prop} (hd : 3 ≤ d) (h : w_Mod_isWrong_46 M Q ) : e_E 180 d 0 0 46 [] [] M (e_QI Q) := by
  unfold w_Mod_isWrong_46 at h
  refine r_iconst (kd180 rfl) (y := 1) (by decide) rfl ?_
  exact r_zreturn (kd180 rfl) R180 h.1 h.2
set_option maxRecDepth 100000 in
def w_Mod_isWrong_388 (s0 : Int32) (M : eM) (Q : Int32 → eM → Prop) : Prop := (s0 = 0 ∨ s0 = 1) ∧ Q s0 M
set_option maxRecDepth 100000 in
theorem b_Mod_isWrong_388 {d : Nat} {s0 : Int32} {M : eM} {Q : Int32 → eM → Prop} (hd : 3 ≤ d) (h : w_Mod_isWrong_388 s0 M Q ) : e_E 180 d 0 0 388 [] [.int s0] M (e_QI Q) := by
  unfold w_Mod_isWrong_388 at h
  exact r_zreturn (kd180 rfl) R180 h.1 h.2
set_option maxRecDepth 100000 in
def w_Mod_isWrong_399 (s0 : Int32) (M : eM) (Q : Int32 → eM → Prop) : Prop := (s0 = 0 ∨ s0 = 1) ∧ Q s0 M
set_option maxRecDepth 100000 in
theorem b_Mod_isWrong_399 {d : Nat} {s0 : Int32} {M : eM} {Q : Int32 → eM → Prop} (hd : 3 ≤ d) (h : w_Mod_isWrong_399 s0 M Q ) : e_E 180 d 0 0 399 [] [.int s0] M (e_QI Q) := by
  unfold w_Mod_isWrong_399 at h
  exact r_zreturn (kd180 rfl) R180 h.1 h.2
set_option maxRecDepth 100000 in
def w_Mod_isWrong_389 (l7 : Int32) (M : eM) (Q : Int32 → eM → Prop) : Prop := (¬ l7 = 0 → w_Mod_isWrong_399 0 M Q) ∧ (l7 = 0 → w_Mod_isWrong_399 1 M Q)
set_option maxRecDepth 100000 in
theorem b_Mod_isWrong_389 {d : Nat} {l7 : Int32} {M : eM} {Q : Int32 → eM → Prop} (hd : 3 ≤ d) (h : w_Mod_isWrong_389 l7 M Q ) : e_E 180 d 0 0 389 [(7, .int l7)] [] M (e_QI Q) := by
  unfold w_Mod_isWrong_389 at h
  refine r_iload (kd180 rfl) rfl rfl ?_
  refine r_if_ne (kd180 rfl) rfl (fun c => ?_) (fun c => ?_)
  · have h := h.1 c
    refine r_iconst (kd180 rfl) (y := 0) (by decide) rfl ?_
    exact (b_Mod_isWrong_399 hd h).less e_sn
  · have h := h.2 c
    refine r_iconst (kd180 rfl) (y := 1) (by decide) rfl ?_
    refine r_goto (kd180 rfl) ?_
    exact (b_Mod_isWrong_399 hd h).less e_sn
set_option maxRecDepth 100000 in
def w_Mod_isWrong_415 (s0 : Int32) (M : eM) (Q : Int32 → eM → Prop) : Prop := (s0 = 0 ∨ s0 = 1) ∧ Q s0 M
set_option maxRecDepth 100000 in
theorem b_Mod_isWrong_415 {d : Nat} {s0 : Int32} {M : eM} {Q : Int32 → eM → Prop} (hd : 3 ≤ d) (h : w_Mod_isWrong_415 s0 M Q ) : e_E 180 d 0 0 415 [] [.int s0] M (e_QI Q) := by
  unfold w_Mod_isWrong_415 at h
  exact r_zreturn (kd180 rfl) R180 h.1 h.2
set_option maxRecDepth 100000 in
def w_Mod_isWrong_410 (M : eM) (Q : Int32 → eM → Prop) : Prop := w_Mod_isWrong_415 1 M Q
set_option maxRecDepth 100000 in
theorem b_Mod_isWrong_410 {d : Nat} {M : eM} {Q : Int32 → eM → Prop} (hd : 3 ≤ d) (h : w_Mod_isWrong_410 M Q ) : e_E 180 d 0 0 410 [] [] M (e_QI Q) := by
  unfold w_Mod_isWrong_410 at h
  refine r_iconst (kd180 rfl) (y := 1) (by decide) rfl ?_
  refine r_goto (kd180 rfl) ?_
  exact (b_Mod_isWrong_415 hd h).less e_sn
set_option maxRecDepth 100000 in
def w_Mod_isWrong_427 (s0 : Int32) (M : eM) (Q : Int32 → eM → Prop) : Prop := (s0 = 0 ∨ s0 = 1) ∧ Q s0 M
set_option maxRecDepth 100000 in
theorem b_Mod_isWrong_427 {d : Nat} {s0 : Int32} {M : eM} {Q : Int32 → eM → Prop} (hd : 3 ≤ d) (h : w_Mod_isWrong_427 s0 M Q ) : e_E 180 d 0 0 427 [] [.int s0] M (e_QI Q) := by
  unfold w_Mod_isWrong_427 at h
  exact r_zreturn (kd180 rfl) R180 h.1 h.2
set_option maxRecDepth 100000 in
def w_Mod_isWrong_416 (l7 : Int32) (M : eM) (Q : Int32 → eM → Prop) : Prop := (l7 = 1 → w_Mod_isWrong_427 0 M Q) ∧ (¬ l7 = 1 → w_Mod_isWrong_427 1 M Q)
set_option maxRecDepth 100000 in
theorem b_Mod_isWrong_416 {d : Nat} {l7 : Int32} {M : eM} {Q : Int32 → eM → Prop} (hd : 3 ≤ d) (h : w_Mod_isWrong_416 l7 M Q ) : e_E 180 d 0 0 416 [(7, .int l7)] [] M (e_QI Q) := by
  unfold w_Mod_isWrong_416 at h
  refine r_iload (kd180 rfl) rfl rfl ?_
  refine r_iconst (kd180 rfl) (y := 1) (by decide) rfl ?_
  refine r_icmp_eq (kd180 rfl) rfl (fun c => ?_) (fun c => ?_)
  · have h := h.1 c
    refine r_iconst (kd180 rfl) (y := 0) (by decide) rfl ?_
    exact (b_Mod_isWrong_427 hd h).less e_sn
  · have h := h.2 c
    refine r_iconst (kd180 rfl) (y := 1) (by decide) rfl ?_
    refine r_goto (kd180 rfl) ?_
    exact (b_Mod_isWrong_427 hd h).less e_sn
set_option maxRecDepth 100000 in
def w_Mod_isWrong_449 (s0 : Int32) (M : eM) (Q : Int32 → eM → Prop) : Prop := (s0 = 0 ∨ s0 = 1) ∧ Q s0 M
set_option maxRecDepth 100000 in
theorem b_Mod_isWrong_449 {d : Nat} {s0 : Int32} {M : eM} {Q : Int32 → eM → Prop} (hd : 3 ≤ d) (h : w_Mod_isWrong_449 s0 M Q ) : e_E 180 d 0 0 449 [] [.int s0] M (e_QI Q) := by
  unfold w_Mod_isWrong_449 at h
  exact r_zreturn (kd180 rfl) R180 h.1 h.2
set_option maxRecDepth 100000 in
def w_Mod_isWrong_463 (s0 : Int32) (M : eM) (Q : Int32 → eM → Prop) : Prop := (s0 = 0 ∨ s0 = 1) ∧ Q s0 M
set_option maxRecDepth 100000 in
theorem b_Mod_isWrong_463 {d : Nat} {s0 : Int32} {M : eM} {Q : Int32 → eM → Prop} (hd : 3 ≤ d) (h : w_Mod_isWrong_463 s0 M Q ) : e_E 180 d 0 0 463 [] [.int s0] M (e_QI Q) := by
  unfold w_Mod_isWrong_463 at h
  exact r_zreturn (kd180 rfl) R180 h.1 h.2
set_option maxRecDepth 100000 in
def w_Mod_isWrong_450 (l7 : Int32) (M : eM) (Q : Int32 → eM → Prop) : Prop := w_Mod_isThing l7 M (fun (v37 : Int32) (M36 : eM) => (¬ v37 = 0 → w_Mod_isWrong_463 0 M36 Q) ∧ (v37 = 0 → w_Mod_isWrong_463 1 M36 Q))
set_option maxRecDepth 100000 in
theorem b_Mod_isWrong_450 {d : Nat} {l7 : Int32} {M : eM} {Q : Int32 → eM → Prop} (hd : 3 ≤ d) (h : w_Mod_isWrong_450 l7 M Q ) : e_E 180 d 0 0 450 [(7, .int l7)] [] M (e_QI Q) := by
  unfold w_Mod_isWrong_450 at h
  refine r_iload (kd180 rfl) rfl rfl ?_
  refine r_callSI (d' := d - 1) (by omega) (kd180 rfl) (by decide) rfl rfl rfl rfl (Nat.le_of_ble_eq_true rfl) rfl L179 (Nat.le_of_ble_eq_true rfl) (Nat.le_of_ble_eq_true rfl) (Nat.zero_le _) (Nat.zero_le _) rfl rfl rfl (b_Mod_isThing (by omega) h) (fun x1 M1 h => ?_)
  refine r_if_ne (kd180 rfl) rfl (fun c => ?_) (fun c => ?_)
  · have h := h.1 c
    refine r_iconst (kd180 rfl) (y := 0) (by decide) rfl ?_
    exact (b_Mod_isWrong_463 hd h).less e_sn
  · have h := h.2 c
    refine r_iconst (kd180 rfl) (y := 1) (by decide) rfl ?_
    refine r_goto (kd180 rfl) ?_
    exact (b_Mod_isWrong_463 hd h).less e_sn
set_option maxRecDepth 100000 in
def w_Mod_isWrong_511 (s0 : Int32) (M : eM) (Q : Int32 → eM → Prop) : Prop := (s0 = 0 ∨ s0 = 1) ∧ Q s0 M
set_option maxRecDepth 100000 in
theorem b_Mod_isWrong_511 {d : Nat} {s0 : Int32} {M : eM} {Q : Int32 → eM → Prop} (hd : 3 ≤ d) (h : w_Mod_isWrong_511 s0 M Q ) : e_E 180 d 0 0 511 [] [.int s0] M (e_QI Q) := by
  unfold w_Mod_isWrong_511 at h
  exact r_zreturn (kd180 rfl) R180 h.1 h.2
set_option maxRecDepth 100000 in
def w_Mod_isWrong_506 (M : eM) (Q : Int32 → eM → Prop) : Prop := w_Mod_isWrong_511 1 M Q
set_option maxRecDepth 100000 in
theorem b_Mod_isWrong_506 {d : Nat} {M : eM} {Q : Int32 → eM → Prop} (hd : 3 ≤ d) (h : w_Mod_isWrong_506 M Q ) : e_E 180 d 0 0 506 [] [] M (e_QI Q) := by
  unfold w_Mod_isWrong_506 at h
  refine r_iconst (kd180 rfl) (y := 1) (by decide) rfl ?_
  refine r_goto (kd180 rfl) ?_
  exact (b_Mod_isWrong_511 hd h).less e_sn
set_option maxRecDepth 100000 in
def w_Mod_isWrong_510 (M : eM) (Q : Int32 → eM → Prop) : Prop := w_Mod_isWrong_511 0 M Q
set_option maxRecDepth 100000 in
theorem b_Mod_isWrong_510 {d : Nat} {M : eM} {Q : Int32 → eM → Prop} (hd : 3 ≤ d) (h : w_Mod_isWrong_510 M Q ) : e_E 180 d 0 0 510 [] [] M (e_QI Q) := by
  unfold w_Mod_isWrong_510 at h
  refine r_iconst (kd180 rfl) (y := 0) (by decide) rfl ?_
  exact (b_Mod_isWrong_511 hd h).less e_sn
set_option maxRecDepth 100000 in
def w_Mod_isWrong_493 (l7 : Int32) (l8 : Int32) (M : eM) (Q : Int32 → eM → Prop) : Prop := (¬ l8 = 2 → w_Mod_isWrong_510 M Q) ∧ (l8 = 2 → (l7 < 15 → w_Mod_isWrong_510 M Q) ∧ (¬ l7 < 15 → w_Mod_isWrong_506 M Q))
set_option maxRecDepth 100000 in
theorem b_Mod_isWrong_493 {d : Nat} {l7 : Int32} {l8 : Int32} {M : eM} {Q : Int32 → eM → Prop} (hd : 3 ≤ d) (h : w_Mod_isWrong_493 l7 l8 M Q ) : e_E 180 d 0 0 493 [(7, .int l7), (8, .int l8)] [] M (e_QI Q) := by
  unfold w_Mod_isWrong_493 at h
  refine r_iload (kd180 rfl) rfl rfl ?_
  refine r_iconst (kd180 rfl) (y := 2) (by decide) rfl ?_
  refine r_icmp_ne (kd180 rfl) rfl (fun c => ?_) (fun c => ?_)
  · have h := h.1 c
    exact (b_Mod_isWrong_510 hd h).less e_sn
  · have h := h.2 c
    refine r_iload (kd180 rfl) rfl rfl ?_
    refine r_bipush (kd180 rfl) (y := 15) (by decide) rfl ?_
    refine r_icmp_lt (kd180 rfl) rfl (fun c => ?_) (fun c => ?_)
    · have h := h.1 c
      exact (b_Mod_isWrong_510 hd h).less e_sn
    · have h := h.2 c
      exact (b_Mod_isWrong_506 hd h).less e_sn
set_option maxRecDepth 100000 in
def w_Mod_isWrong_464 (l7 : Int32) (l8 : Int32) (M : eM) (Q : Int32 → eM → Prop) : Prop := w_Mod_isThing l7 M (fun (v33 : Int32) (M32 : eM) => (v33 = 0 → w_Mod_isWrong_506 M32 Q) ∧ (¬ v33 = 0 → w_Mod_isThing l8 M32 (fun (v35 : Int32) (M34 : eM) => (v35 = 0 → w_Mod_isWrong_506 M34 Q) ∧ (¬ v35 = 0 → (¬ l7 = 2 → w_Mod_isWrong_493 l7 l8 M34 Q) ∧ (l7 = 2 → (15 ≤ l8 → w_Mod_isWrong_506 M34 Q) ∧ (¬ 15 ≤ l8 → w_Mod_isWrong_493 l7 l8 M34 Q))))))
set_option maxRecDepth 100000 in
theorem b_Mod_isWrong_464 {d : Nat} {l7 : Int32} {l8 : Int32} {M : eM} {Q : Int32 → eM → Prop} (hd : 3 ≤ d) (h : w_Mod_isWrong_464 l7 l8 M Q ) : e_E 180 d 0 0 464 [(7, .int l7), (8, .int l8)] [] M (e_QI Q) := by
  unfold w_Mod_isWrong_464 at h
  refine r_iload (kd180 rfl) rfl rfl ?_
  refine r_callSI (d' := d - 1) (by omega) (kd180 rfl) (by decide) rfl rfl rfl rfl (Nat.le_of_ble_eq_true rfl) rfl L179 (Nat.le_of_ble_eq_true rfl) (Nat.le_of_ble_eq_true rfl) (Nat.zero_le _) (Nat.zero_le _) rfl rfl rfl (b_Mod_isThing (by omega) h) (fun x1 M1 h => ?_)
  refine r_if_eq (kd180 rfl) rfl (fun c => ?_) (fun c => ?_)
  · have h := h.1 c
    exact (b_Mod_isWrong_506 hd h).less e_sn
  · have h := h.2 c
    refine r_iload (kd180 rfl) rfl rfl ?_
    refine r_callSI (d' := d - 1) (by omega) (kd180 rfl) (by decide) rfl rfl rfl rfl (Nat.le_of_ble_eq_true rfl) rfl L179 (Nat.le_of_ble_eq_true rfl) (Nat.le_of_ble_eq_true rfl) (Nat.zero_le _) (Nat.zero_le _) rfl rfl rfl (b_Mod_isThing (by omega) h) (fun x1 M1 h => ?_)
    refine r_if_eq (kd180 rfl) rfl (fun c => ?_) (fun c => ?_)
    · have h := h.1 c
      exact (b_Mod_isWrong_506 hd h).less e_sn
    · have h := h.2 c
      refine r_iload (kd180 rfl) rfl rfl ?_
      refine r_iconst (kd180 rfl) (y := 2) (by decide) rfl ?_
      refine r_icmp_ne (kd180 rfl) rfl (fun c => ?_) (fun c => ?_)
      · have h := h.1 c
        exact (b_Mod_isWrong_493 hd h).less (e_sc (List.mem_of_getElem? (i := 0) rfl) (e_sc (List.mem_of_getElem? (i := 1) rfl) e_sn))
      · have h := h.2 c
        refine r_iload (kd180 rfl) rfl rfl ?_
        refine r_bipush (kd180 rfl) (y := 15) (by decide) rfl ?_
        refine r_icmp_ge (kd180 rfl) rfl (fun c => ?_) (fun c => ?_)
        · have h := h.1 c
          exact (b_Mod_isWrong_506 hd h).less e_sn
        · have h := h.2 c
          exact (b_Mod_isWrong_493 hd h).less (e_sc (List.mem_of_getElem? (i := 0) rfl) (e_sc (List.mem_of_getElem? (i := 1) rfl) e_sn))
set_option maxRecDepth 100000 in
def w_Mod_isWrong_531 (s0 : Int32) (M : eM) (Q : Int32 → eM → Prop) : Prop := (s0 = 0 ∨ s0 = 1) ∧ Q s0 M
set_option maxRecDepth 100000 in
theorem b_Mod_isWrong_531 {d : Nat} {s0 : Int32} {M : eM} {Q : Int32 → eM → Prop} (hd : 3 ≤ d) (h : w_Mod_isWrong_531 s0 M Q ) : e_E 180 d 0 0 531 [] [.int s0] M (e_QI Q) := by
  unfold w_Mod_isWrong_531 at h
  exact r_zreturn (kd180 rfl) R180 h.1 h.2
set_option maxRecDepth 100000 in
def w_Mod_isWrong_579 (s0 : Int32) (M : eM) (Q : Int32 → eM → Prop) : Prop := (s0 = 0 ∨ s0 = 1) ∧ Q s0 M
set_option maxRecDepth 100000 in
theorem b_Mod_isWrong_579 {d : Nat} {s0 : Int32} {M : eM} {Q : Int32 → eM → Prop} (hd : 3 ≤ d) (h : w_Mod_isWrong_579 s0 M Q ) : e_E 180 d 0 0 579 [] [.int s0] M (e_QI Q) := by
  unfold w_Mod_isWrong_579 at h
  exact r_zreturn (kd180 rfl) R180 h.1 h.2
set_option maxRecDepth 100000 in
def w_Mod_isWrong_574 (M : eM) (Q : Int32 → eM → Prop) : Prop := w_Mod_isWrong_579 1 M Q
set_option maxRecDepth 100000 in
theorem b_Mod_isWrong_574 {d : Nat} {M : eM} {Q : Int32 → eM → Prop} (hd : 3 ≤ d) (h : w_Mod_isWrong_574 M Q ) : e_E 180 d 0 0 574 [] [] M (e_QI Q) := by
  unfold w_Mod_isWrong_574 at h
  refine r_iconst (kd180 rfl) (y := 1) (by decide) rfl ?_
  refine r_goto (kd180 rfl) ?_
  exact (b_Mod_isWrong_579 hd h).less e_sn
set_option maxRecDepth 100000 in
def w_Mod_isWrong_601 (s0 : Int32) (M : eM) (Q : Int32 → eM → Prop) : Prop := (s0 = 0 ∨ s0 = 1) ∧ Q s0 M
set_option maxRecDepth 100000 in
theorem b_Mod_isWrong_601 {d : Nat} {s0 : Int32} {M : eM} {Q : Int32 → eM → Prop} (hd : 3 ≤ d) (h : w_Mod_isWrong_601 s0 M Q ) : e_E 180 d 0 0 601 [] [.int s0] M (e_QI Q) := by
  unfold w_Mod_isWrong_601 at h
  exact r_zreturn (kd180 rfl) R180 h.1 h.2
set_option maxRecDepth 100000 in
def w_Mod_isWrong_596 (M : eM) (Q : Int32 → eM → Prop) : Prop := w_Mod_isWrong_601 1 M Q
set_option maxRecDepth 100000 in
theorem b_Mod_isWrong_596 {d : Nat} {M : eM} {Q : Int32 → eM → Prop} (hd : 3 ≤ d) (h : w_Mod_isWrong_596 M Q ) : e_E 180 d 0 0 596 [] [] M (e_QI Q) := by
  unfold w_Mod_isWrong_596 at h
  refine r_iconst (kd180 rfl) (y := 1) (by decide) rfl ?_
  refine r_goto (kd180 rfl) ?_
  exact (b_Mod_isWrong_601 hd h).less e_sn
set_option maxRecDepth 100000 in
def w_Mod_isWrong_636 (s0 : Int32) (M : eM) (Q : Int32 → eM → Prop) : Prop := (s0 = 0 ∨ s0 = 1) ∧ Q s0 M
set_option maxRecDepth 100000 in
theorem b_Mod_isWrong_636 {d : Nat} {s0 : Int32} {M : eM} {Q : Int32 → eM → Prop} (hd : 3 ≤ d) (h : w_Mod_isWrong_636 s0 M Q ) : e_E 180 d 0 0 636 [] [.int s0] M (e_QI Q) := by
  unfold w_Mod_isWrong_636 at h
  exact r_zreturn (kd180 rfl) R180 h.1 h.2
set_option maxRecDepth 100000 in
def w_Mod_isWrong_631 (M : eM) (Q : Int32 → eM → Prop) : Prop := w_Mod_isWrong_636 1 M Q
set_option maxRecDepth 100000 in
theorem b_Mod_isWrong_631 {d : Nat} {M : eM} {Q : Int32 → eM → Prop} (hd : 3 ≤ d) (h : w_Mod_isWrong_631 M Q ) : e_E 180 d 0 0 631 [] [] M (e_QI Q) := by
  unfold w_Mod_isWrong_631 at h
  refine r_iconst (kd180 rfl) (y := 1) (by decide) rfl ?_
  refine r_goto (kd180 rfl) ?_
  exact (b_Mod_isWrong_636 hd h).less e_sn
set_option maxRecDepth 100000 in
def w_Mod_isWrong_652 (s0 : Int32) (M : eM) (Q : Int32 → eM → Prop) : Prop := (s0 = 0 ∨ s0 = 1) ∧ Q s0 M
set_option maxRecDepth 100000 in
theorem b_Mod_isWrong_652 {d : Nat} {s0 : Int32} {M : eM} {Q : Int32 → eM → Prop} (hd : 3 ≤ d) (h : w_Mod_isWrong_652 s0 M Q ) : e_E 180 d 0 0 652 [] [.int s0] M (e_QI Q) := by
  unfold w_Mod_isWrong_652 at h
  exact r_zreturn (kd180 rfl) R180 h.1 h.2
set_option maxRecDepth 100000 in
def w_Mod_isWrong_672 (s0 : Int32) (M : eM) (Q : Int32 → eM → Prop) : Prop := (s0 = 0 ∨ s0 = 1) ∧ Q s0 M
set_option maxRecDepth 100000 in
theorem b_Mod_isWrong_672 {d : Nat} {s0 : Int32} {M : eM} {Q : Int32 → eM → Prop} (hd : 3 ≤ d) (h : w_Mod_isWrong_672 s0 M Q ) : e_E 180 d 0 0 672 [] [.int s0] M (e_QI Q) := by
  unfold w_Mod_isWrong_672 at h
  exact r_zreturn (kd180 rfl) R180 h.1 h.2
set_option maxRecDepth 100000 in
def w_Mod_isWrong_667 (M : eM) (Q : Int32 → eM → Prop) : Prop := w_Mod_isWrong_672 1 M Q
set_option maxRecDepth 100000 in
theorem b_Mod_isWrong_667 {d : Nat} {M : eM} {Q : Int32 → eM → Prop} (hd : 3 ≤ d) (h : w_Mod_isWrong_667 M Q ) : e_E 180 d 0 0 667 [] [] M (e_QI Q) := by
  unfold w_Mod_isWrong_667 at h
  refine r_iconst (kd180 rfl) (y := 1) (by decide) rfl ?_
  refine r_goto (kd180 rfl) ?_
  exact (b_Mod_isWrong_672 hd h).less e_sn
set_option maxRecDepth 100000 in
def w_Mod_isWrong_653 (l7 : Int32) (M : eM) (Q : Int32 → eM → Prop) : Prop := w_Mod_isThing l7 M (fun (v31 : Int32) (M30 : eM) => (v31 = 0 → w_Mod_isWrong_667 M30 Q) ∧ (¬ v31 = 0 → (¬ l7 = 2 → w_Mod_isWrong_672 0 M30 Q) ∧ (l7 = 2 → w_Mod_isWrong_667 M30 Q)))
set_option maxRecDepth 100000 in
theorem b_Mod_isWrong_653 {d : Nat} {l7 : Int32} {M : eM} {Q : Int32 → eM → Prop} (hd : 3 ≤ d) (h : w_Mod_isWrong_653 l7 M Q ) : e_E 180 d 0 0 653 [(7, .int l7)] [] M (e_QI Q) := by
  unfold w_Mod_isWrong_653 at h
  refine r_iload (kd180 rfl) rfl rfl ?_
  refine r_callSI (d' := d - 1) (by omega) (kd180 rfl) (by decide) rfl rfl rfl rfl (Nat.le_of_ble_eq_true rfl) rfl L179 (Nat.le_of_ble_eq_true rfl) (Nat.le_of_ble_eq_true rfl) (Nat.zero_le _) (Nat.zero_le _) rfl rfl rfl (b_Mod_isThing (by omega) h) (fun x1 M1 h => ?_)
  refine r_if_eq (kd180 rfl) rfl (fun c => ?_) (fun c => ?_)
  · have h := h.1 c
    exact (b_Mod_isWrong_667 hd h).less e_sn
  · have h := h.2 c
    refine r_iload (kd180 rfl) rfl rfl ?_
    refine r_iconst (kd180 rfl) (y := 2) (by decide) rfl ?_
    refine r_icmp_ne (kd180 rfl) rfl (fun c => ?_) (fun c => ?_)
    · have h := h.1 c
      refine r_iconst (kd180 rfl) (y := 0) (by decide) rfl ?_
      exact (b_Mod_isWrong_672 hd h).less e_sn
    · have h := h.2 c
      exact (b_Mod_isWrong_667 hd h).less e_sn
set_option maxRecDepth 100000 in
def w_Mod_isWrong_676 : Nat → Nat → Int32 → Int32 → Int32 → eM → (Int32 → eM → Prop) → Prop
  | 0, _, _, _, _, _, _ => False
  | n + 1, l0, l4, l6, l9, M, Q => e_ob M l0 12 ∧ e_ai M (gr M l0 20) l6 ∧ ((gi M (gr M l0 20) l6.toNatClampNeg) ≤ l9 → ((0 : Int32) = 0 ∨ (0 : Int32) = 1) ∧ Q (0 : Int32) M) ∧ (¬ (gi M (gr M l0 20) l6.toNatClampNeg) ≤ l9 → e_ob M l0 12 ∧ e_ob M l0 12 ∧ e_ai M (gr M l0 20) l6 ∧ e_ai M (gr M l0 30) ((l4 - (gi M (gr M l0 20) l6.toNatClampNeg)) + l9) ∧ e_ob M l0 12 ∧ e_ai M (gr M l0 21) ((4 * l6) + l9) ∧ e_ob M l0 12 ∧ w_Mod_fits l0 (gi M (gr M l0 30) ((l4 - (gi M (gr M l0 20) l6.toNatClampNeg)) + l9).toNatClampNeg) (gi M (gr M l0 21) ((4 * l6) + l9).toNatClampNeg) M (fun (v29 : Int32) (M28 : eM) => (¬ v29 = 0 → (fun l0 l4 l6 l9 M => w_Mod_isWrong_676 n l0 l4 l6 l9 M Q ) l0 l4 l6 (l9 + 1) M28) ∧ (v29 = 0 → ((1 : Int32) = 0 ∨ (1 : Int32) = 1) ∧ Q (1 : Int32) M28)))
set_option maxRecDepth 100000 in
theorem b_Mod_isWrong_676 {d : Nat} {Q : Int32 → eM → Prop} (hd : 3 ≤ d) (n : Nat) : ∀ (l0 : Nat) (l4 : Int32) (l6 : Int32) (l9 : Int32) (M : eM), w_Mod_isWrong_676 n l0 l4 l6 l9 M Q → e_E 180 d 0 0 676 [(0, .ref l0), (4, .int l4), (6, .int l6), (9, .int l9)] [] M (e_QI Q) := by
  induction n with
  | zero => intro l0 l4 l6 l9 M h; exact False.elim h
  | succ n ih =>
    intro l0 l4 l6 l9 M h
    have hk676 := ih
    refine r_iload (kd180 rfl) rfl rfl ?_
    refine r_aload_n (kd180 rfl) rfl rfl ?_
    obtain ⟨g, h⟩ := h
    refine r_get2 (kd180 rfl) (by decide) rfl g rfl ?_
    refine r_iload (kd180 rfl) rfl rfl ?_
    obtain ⟨g, h⟩ := h
    refine r_iaload (kd180 rfl) g rfl ?_
    refine r_icmp_ge (kd180 rfl) rfl (fun c => ?_) (fun c => ?_)
    · have h := h.1 c
      refine r_iconst (kd180 rfl) (y := 0) (by decide) rfl ?_
      exact r_zreturn (kd180 rfl) R180 h.1 h.2
    · have h := h.2 c
      refine r_aload_n (kd180 rfl) rfl rfl ?_
      refine r_aload_n (kd180 rfl) rfl rfl ?_
      obtain ⟨g, h⟩ := h
      refine r_get2 (kd180 rfl) (by decide) rfl g rfl ?_
      refine r_iload (kd180 rfl) rfl rfl ?_
      refine r_aload_n (kd180 rfl) rfl rfl ?_
      obtain ⟨g, h⟩ := h
      refine r_get2 (kd180 rfl) (by decide) rfl g rfl ?_
      refine r_iload (kd180 rfl) rfl rfl ?_
      obtain ⟨g, h⟩ := h
      refine r_iaload (kd180 rfl) g rfl ?_
      refine r_isub (kd180 rfl) rfl ?_
      refine r_iload (kd180 rfl) rfl rfl ?_
      refine r_iadd (kd180 rfl) rfl ?_
      obtain ⟨g, h⟩ := h
      refine r_iaload (kd180 rfl) g rfl ?_
      refine r_aload_n (kd180 rfl) rfl rfl ?_
      obtain ⟨g, h⟩ := h
      refine r_get2 (kd180 rfl) (by decide) rfl g rfl ?_
      refine r_iconst (kd180 rfl) (y := 4) (by decide) rfl ?_
      refine r_iload (kd180 rfl) rfl rfl ?_
      refine r_imul (kd180 rfl) rfl ?_
      refine r_iload (kd180 rfl) rfl rfl ?_
      refine r_iadd (kd180 rfl) rfl ?_
      obtain ⟨g, h⟩ := h
      refine r_iaload (kd180 rfl) g rfl ?_
      obtain ⟨g, h⟩ := h
      refine r_callVI (d' := d - 1) (by omega) (kd180 rfl) (by decide) rfl rfl rfl rfl (Nat.le_of_ble_eq_true rfl) rfl L178 (Nat.le_of_ble_eq_true rfl) (Nat.le_of_ble_eq_true rfl) g (Nat.zero_le _) (Nat.zero_le _) rfl rfl rfl (b_Mod_fits (by omega) h) (fun x1 M1 h => ?_)
      refine r_if_ne (kd180 rfl) rfl (fun c => ?_) (fun c => ?_)
      · have h := h.1 c
        refine r_iinc (kd180 rfl) rfl (y := 1) (by decide) L180 (by decide) rfl rfl ?_
        refine r_goto (kd180 rfl) ?_
        exact (hk676 _ _ _ _ _ h).less (e_sc (List.mem_of_getElem? (i := 1) rfl) (e_sc (List.mem_of_getElem? (i := 2) rfl) (e_sc (List.mem_of_getElem? (i := 3) rfl) (e_sc (List.mem_of_getElem? (i := 0) rfl) e_sn))))
      · have h := h.2 c
        refine r_iconst (kd180 rfl) (y := 1) (by decide) rfl ?_
        exact r_zreturn (kd180 rfl) R180 h.1 h.2
set_option maxRecDepth 100000 in
def w_Mod_isWrong_841 (s0 : Int32) (M : eM) (Q : Int32 → eM → Prop) : Prop := (s0 = 0 ∨ s0 = 1) ∧ Q s0 M
set_option maxRecDepth 100000 in
theorem b_Mod_isWrong_841 {d : Nat} {s0 : Int32} {M : eM} {Q : Int32 → eM → Prop} (hd : 3 ≤ d) (h : w_Mod_isWrong_841 s0 M Q ) : e_E 180 d 0 0 841 [] [.int s0] M (e_QI Q) := by
  unfold w_Mod_isWrong_841 at h
  exact r_zreturn (kd180 rfl) R180 h.1 h.2
set_option maxRecDepth 100000 in
def w_Mod_isWrong_836 (M : eM) (Q : Int32 → eM → Prop) : Prop := w_Mod_isWrong_841 1 M Q
set_option maxRecDepth 100000 in
theorem b_Mod_isWrong_836 {d : Nat} {M : eM} {Q : Int32 → eM → Prop} (hd : 3 ≤ d) (h : w_Mod_isWrong_836 M Q ) : e_E 180 d 0 0 836 [] [] M (e_QI Q) := by
  unfold w_Mod_isWrong_836 at h
  refine r_iconst (kd180 rfl) (y := 1) (by decide) rfl ?_
  refine r_goto (kd180 rfl) ?_
  exact (b_Mod_isWrong_841 hd h).less e_sn
set_option maxRecDepth 100000 in
def w_Mod_isWrong_757 : Nat → Nat → Int32 → Int32 → Int32 → Int32 → eM → (Int32 → eM → Prop) → Prop
  | 0, _, _, _, _, _, _, _ => False
  | n + 1, l0, l4, l6, l9, l10, M, Q => e_ob M l0 12 ∧ e_ai M (gr M l0 16) l6 ∧ ((gi M (gr M l0 16) l6.toNatClampNeg) ≤ l10 → (l9 < 16 → w_Mod_isWrong_836  M Q) ∧ (¬ l9 < 16 → e_ob M l0 12 ∧ w_Mod_resolve l0 (l9 - 16) l6 M (fun (v25 : Int32) (M24 : eM) => (¬ v25 = (-1) → w_Mod_isWrong_841 0 M24 Q) ∧ (v25 = (-1) → w_Mod_isWrong_836  M24 Q)))) ∧ (¬ (gi M (gr M l0 16) l6.toNatClampNeg) ≤ l10 → e_ob M l0 12 ∧ e_ob M l0 12 ∧ e_ai M (gr M l0 16) l6 ∧ e_ai M (gr M l0 30) ((l4 - (gi M (gr M l0 16) l6.toNatClampNeg)) + l10) ∧ e_ob M l0 12 ∧ e_ai M (gr M l0 17) ((3 * l6) + l10) ∧ e_ob M l0 12 ∧ w_Mod_fits l0 (gi M (gr M l0 30) ((l4 - (gi M (gr M l0 16) l6.toNatClampNeg)) + l10).toNatClampNeg) (gi M (gr M l0 17) ((3 * l6) + l10).toNatClampNeg) M (fun (v27 : Int32) (M26 : eM) => (¬ v27 = 0 → (fun l0 l4 l6 l9 l10 M => w_Mod_isWrong_757 n l0 l4 l6 l9 l10 M Q ) l0 l4 l6 l9 (l10 + 1) M26) ∧ (v27 = 0 → ((1 : Int32) = 0 ∨ (1 : Int32) = 1) ∧ Q (1 : Int32) M26)))
set_option maxRecDepth 100000 in
theorem b_Mod_isWrong_757 {d : Nat} {Q : Int32 → eM → Prop} (hd : 3 ≤ d) (n : Nat) : ∀ (l0 : Nat) (l4 : Int32) (l6 : Int32) (l9 : Int32) (l10 : Int32) (M : eM), w_Mod_isWrong_757 n l0 l4 l6 l9 l10 M Q → e_E 180 d 0 0 757 [(0, .ref l0), (4, .int l4), (6, .int l6), (9, .int l9), (10, .int l10)] [] M (e_QI Q) := by
  induction n with
  | zero => intro l0 l4 l6 l9 l10 M h; exact False.elim h
  | succ n ih =>
    intro l0 l4 l6 l9 l10 M h
    have hk757 := ih
    refine r_iload (kd180 rfl) rfl rfl ?_
    refine r_aload_n (kd180 rfl) rfl rfl ?_
    obtain ⟨g, h⟩ := h
    refine r_get2 (kd180 rfl) (by decide) rfl g rfl ?_
    refine r_iload (kd180 rfl) rfl rfl ?_
    obtain ⟨g, h⟩ := h
    refine r_iaload (kd180 rfl) g rfl ?_
    refine r_icmp_ge (kd180 rfl) rfl (fun c => ?_) (fun c => ?_)
    · have h := h.1 c
      refine r_iload (kd180 rfl) rfl rfl ?_
      refine r_bipush (kd180 rfl) (y := 16) (by decide) rfl ?_
      refine r_icmp_lt (kd180 rfl) rfl (fun c => ?_) (fun c => ?_)
      · have h := h.1 c
        exact (b_Mod_isWrong_836 hd h).less e_sn
      · have h := h.2 c
        refine r_aload_n (kd180 rfl) rfl rfl ?_
        refine r_iload (kd180 rfl) rfl rfl ?_
        refine r_bipush (kd180 rfl) (y := 16) (by decide) rfl ?_
        refine r_isub (kd180 rfl) rfl ?_
        refine r_iload (kd180 rfl) rfl rfl ?_
        obtain ⟨g, h⟩ := h
        refine r_callVI (d' := d - 1) (by omega) (kd180 rfl) (by decide) rfl rfl rfl rfl (Nat.le_of_ble_eq_true rfl) rfl L168 (Nat.le_of_ble_eq_true rfl) (Nat.le_of_ble_eq_true rfl) g (Nat.zero_le _) (Nat.zero_le _) rfl rfl rfl (b_Mod_resolve (by omega) h) (fun x1 M1 h => ?_)
        refine r_iconst (kd180 rfl) (y := (-1)) (by decide) rfl ?_
        refine r_icmp_ne (kd180 rfl) rfl (fun c => ?_) (fun c => ?_)
        · have h := h.1 c
          refine r_iconst (kd180 rfl) (y := 0) (by decide) rfl ?_
          exact (b_Mod_isWrong_841 hd h).less e_sn
        · have h := h.2 c
          exact (b_Mod_isWrong_836 hd h).less e_sn
    · have h := h.2 c
      refine r_aload_n (kd180 rfl) rfl rfl ?_
      refine r_aload_n (kd180 rfl) rfl rfl ?_
      obtain ⟨g, h⟩ := h
      refine r_get2 (kd180 rfl) (by decide) rfl g rfl ?_
      refine r_iload (kd180 rfl) rfl rfl ?_
      refine r_aload_n (kd180 rfl) rfl rfl ?_
      obtain ⟨g, h⟩ := h
      refine r_get2 (kd180 rfl) (by decide) rfl g rfl ?_
      refine r_iload (kd180 rfl) rfl rfl ?_
      obtain ⟨g, h⟩ := h
      refine r_iaload (kd180 rfl) g rfl ?_
      refine r_isub (kd180 rfl) rfl ?_
      refine r_iload (kd180 rfl) rfl rfl ?_
      refine r_iadd (kd180 rfl) rfl ?_
      obtain ⟨g, h⟩ := h
      refine r_iaload (kd180 rfl) g rfl ?_
      refine r_aload_n (kd180 rfl) rfl rfl ?_
      obtain ⟨g, h⟩ := h
      refine r_get2 (kd180 rfl) (by decide) rfl g rfl ?_
      refine r_iconst (kd180 rfl) (y := 3) (by decide) rfl ?_
      refine r_iload (kd180 rfl) rfl rfl ?_
      refine r_imul (kd180 rfl) rfl ?_
      refine r_iload (kd180 rfl) rfl rfl ?_
      refine r_iadd (kd180 rfl) rfl ?_
      obtain ⟨g, h⟩ := h
      refine r_iaload (kd180 rfl) g rfl ?_
      obtain ⟨g, h⟩ := h
      refine r_callVI (d' := d - 1) (by omega) (kd180 rfl) (by decide) rfl rfl rfl rfl (Nat.le_of_ble_eq_true rfl) rfl L178 (Nat.le_of_ble_eq_true rfl) (Nat.le_of_ble_eq_true rfl) g (Nat.zero_le _) (Nat.zero_le _) rfl rfl rfl (b_Mod_fits (by omega) h) (fun x1 M1 h => ?_)
      refine r_if_ne (kd180 rfl) rfl (fun c => ?_) (fun c => ?_)
      · have h := h.1 c
        refine r_iinc (kd180 rfl) rfl (y := 1) (by decide) L180 (by decide) rfl rfl ?_
        refine r_goto (kd180 rfl) ?_
        exact (hk757 _ _ _ _ _ _ h).less (e_sc (List.mem_of_getElem? (i := 1) rfl) (e_sc (List.mem_of_getElem? (i := 2) rfl) (e_sc (List.mem_of_getElem? (i := 3) rfl) (e_sc (List.mem_of_getElem? (i := 4) rfl) (e_sc (List.mem_of_getElem? (i := 0) rfl) e_sn)))))
      · have h := h.2 c
        refine r_iconst (kd180 rfl) (y := 1) (by decide) rfl ?_
        exact r_zreturn (kd180 rfl) R180 h.1 h.2
set_option maxRecDepth 100000 in
def w_Mod_isWrong_856 (s0 : Int32) (M : eM) (Q : Int32 → eM → Prop) : Prop := (s0 = 0 ∨ s0 = 1) ∧ Q s0 M
set_option maxRecDepth 100000 in
theorem b_Mod_isWrong_856 {d : Nat} {s0 : Int32} {M : eM} {Q : Int32 → eM → Prop} (hd : 3 ≤ d) (h : w_Mod_isWrong_856 s0 M Q ) : e_E 180 d 0 0 856 [] [.int s0] M (e_QI Q) := by
  unfold w_Mod_isWrong_856 at h
  exact r_zreturn (kd180 rfl) R180 h.1 h.2
set_option maxRecDepth 100000 in
def w_Mod_isWrong_886 (s0 : Int32) (M : eM) (Q : Int32 → eM → Prop) : Prop := (s0 = 0 ∨ s0 = 1) ∧ Q s0 M
set_option maxRecDepth 100000 in
theorem b_Mod_isWrong_886 {d : Nat} {s0 : Int32} {M : eM} {Q : Int32 → eM → Prop} (hd : 3 ≤ d) (h : w_Mod_isWrong_886 s0 M Q ) : e_E 180 d 0 0 886 [] [.int s0] M (e_QI Q) := by
  unfold w_Mod_isWrong_886 at h
  exact r_zreturn (kd180 rfl) R180 h.1 h.2
set_option maxRecDepth 100000 in
def w_Mod_isWrong_881 (M : eM) (Q : Int32 → eM → Prop) : Prop := w_Mod_isWrong_886 1 M Q
set_option maxRecDepth 100000 in
theorem b_Mod_isWrong_881 {d : Nat} {M : eM} {Q : Int32 → eM → Prop} (hd : 3 ≤ d) (h : w_Mod_isWrong_881 M Q ) : e_E 180 d 0 0 881 [] [] M (e_QI Q) := by
  unfold w_Mod_isWrong_881 at h
  refine r_iconst (kd180 rfl) (y := 1) (by decide) rfl ?_
  refine r_goto (kd180 rfl) ?_
  exact (b_Mod_isWrong_886 hd h).less e_sn
set_option maxRecDepth 100000 in
def w_Mod_isWrong_939 (s0 : Int32) (M : eM) (Q : Int32 → eM → Prop) : Prop := (s0 = 0 ∨ s0 = 1) ∧ Q s0 M
set_option maxRecDepth 100000 in
theorem b_Mod_isWrong_939 {d : Nat} {s0 : Int32} {M : eM} {Q : Int32 → eM → Prop} (hd : 3 ≤ d) (h : w_Mod_isWrong_939 s0 M Q ) : e_E 180 d 0 0 939 [] [.int s0] M (e_QI Q) := by
  unfold w_Mod_isWrong_939 at h
  exact r_zreturn (kd180 rfl) R180 h.1 h.2
set_option maxRecDepth 100000 in
def w_Mod_isWrong_934 (M : eM) (Q : Int32 → eM → Prop) : Prop := w_Mod_isWrong_939 1 M Q
set_option maxRecDepth 100000 in
theorem b_Mod_isWrong_934 {d : Nat} {M : eM} {Q : Int32 → eM → Prop} (hd : 3 ≤ d) (h : w_Mod_isWrong_934 M Q ) : e_E 180 d 0 0 934 [] [] M (e_QI Q) := by
  unfold w_Mod_isWrong_934 at h
  refine r_iconst (kd180 rfl) (y := 1) (by decide) rfl ?_
  refine r_goto (kd180 rfl) ?_
  exact (b_Mod_isWrong_939 hd h).less e_sn
set_option maxRecDepth 100000 in
def w_Mod_isWrong_938 (M : eM) (Q : Int32 → eM → Prop) : Prop := w_Mod_isWrong_939 0 M Q
set_option maxRecDepth 100000 in
theorem b_Mod_isWrong_938 {d : Nat} {M : eM} {Q : Int32 → eM → Prop} (hd : 3 ≤ d) (h : w_Mod_isWrong_938 M Q ) : e_E 180 d 0 0 938 [] [] M (e_QI Q) := by
  unfold w_Mod_isWrong_938 at h
  refine r_iconst (kd180 rfl) (y := 0) (by decide) rfl ?_
  exact (b_Mod_isWrong_939 hd h).less e_sn
set_option maxRecDepth 100000 in
def w_Mod_isWrong_928 (l8 : Int32) (M : eM) (Q : Int32 → eM → Prop) : Prop := (l8 = 1 → w_Mod_isWrong_938 M Q) ∧ (¬ l8 = 1 → w_Mod_isWrong_934 M Q)
set_option maxRecDepth 100000 in
theorem b_Mod_isWrong_928 {d : Nat} {l8 : Int32} {M : eM} {Q : Int32 → eM → Prop} (hd : 3 ≤ d) (h : w_Mod_isWrong_928 l8 M Q ) : e_E 180 d 0 0 928 [(8, .int l8)] [] M (e_QI Q) := by
  unfold w_Mod_isWrong_928 at h
  refine r_iload (kd180 rfl) rfl rfl ?_
  refine r_iconst (kd180 rfl) (y := 1) (by decide) rfl ?_
  refine r_icmp_eq (kd180 rfl) rfl (fun c => ?_) (fun c => ?_)
  · have h := h.1 c
    exact (b_Mod_isWrong_938 hd h).less e_sn
  · have h := h.2 c
    exact (b_Mod_isWrong_934 hd h).less e_sn
set_option maxRecDepth 100000 in
def w_Mod_isWrong_887 (l5 : Int32) (l7 : Int32) (l8 : Int32) (M : eM) (Q : Int32 → eM → Prop) : Prop := (l5 < 8 → w_Mod_isWrong_938 M Q) ∧ (¬ l5 < 8 → (33 < l5 → w_Mod_isWrong_938 M Q) ∧ (¬ 33 < l5 → (l5 = 21 → w_Mod_isWrong_938 M Q) ∧ (¬ l5 = 21 → (¬ l7 = 1 → w_Mod_isWrong_934 M Q) ∧ (l7 = 1 → (l5 < 19 → w_Mod_isWrong_928 l8 M Q) ∧ (¬ l5 < 19 → (l5 ≤ 27 → w_Mod_isWrong_938 M Q) ∧ (¬ l5 ≤ 27 → w_Mod_isWrong_928 l8 M Q))))))
set_option maxRecDepth 100000 in
theorem b_Mod_isWrong_887 {d : Nat} {l5 : Int32} {l7 : Int32} {l8 : Int32} {M : eM} {Q : Int32 → eM → Prop} (hd : 3 ≤ d) (h : w_Mod_isWrong_887 l5 l7 l8 M Q ) : e_E 180 d 0 0 887 [(5, .int l5), (7, .int l7), (8, .int l8)] [] M (e_QI Q) := by
  unfold w_Mod_isWrong_887 at h
  refine r_iload (kd180 rfl) rfl rfl ?_
  refine r_bipush (kd180 rfl) (y := 8) (by decide) rfl ?_
  refine r_icmp_lt (kd180 rfl) rfl (fun c => ?_) (fun c => ?_)
  · have h := h.1 c
    exact (b_Mod_isWrong_938 hd h).less e_sn
  · have h := h.2 c
    refine r_iload (kd180 rfl) rfl rfl ?_
    refine r_bipush (kd180 rfl) (y := 33) (by decide) rfl ?_
    refine r_icmp_gt (kd180 rfl) rfl (fun c => ?_) (fun c => ?_)
    · have h := h.1 c
      exact (b_Mod_isWrong_938 hd h).less e_sn
    · have h := h.2 c
      refine r_iload (kd180 rfl) rfl rfl ?_
      refine r_bipush (kd180 rfl) (y := 21) (by decide) rfl ?_
      refine r_icmp_eq (kd180 rfl) rfl (fun c => ?_) (fun c => ?_)
      · have h := h.1 c
        exact (b_Mod_isWrong_938 hd h).less e_sn
      · have h := h.2 c
        refine r_iload (kd180 rfl) rfl rfl ?_
        refine r_iconst (kd180 rfl) (y := 1) (by decide) rfl ?_
        refine r_icmp_ne (kd180 rfl) rfl (fun c => ?_) (fun c => ?_)
        · have h := h.1 c
          exact (b_Mod_isWrong_934 hd h).less e_sn
        · have h := h.2 c
          refine r_iload (kd180 rfl) rfl rfl ?_
          refine r_bipush (kd180 rfl) (y := 19) (by decide) rfl ?_
          refine r_icmp_lt (kd180 rfl) rfl (fun c => ?_) (fun c => ?_)
          · have h := h.1 c
            exact (b_Mod_isWrong_928 hd h).less (e_sc (List.mem_of_getElem? (i := 2) rfl) e_sn)
          · have h := h.2 c
            refine r_iload (kd180 rfl) rfl rfl ?_
            refine r_bipush (kd180 rfl) (y := 27) (by decide) rfl ?_
            refine r_icmp_le (kd180 rfl) rfl (fun c => ?_) (fun c => ?_)
            · have h := h.1 c
              exact (b_Mod_isWrong_938 hd h).less e_sn
            · have h := h.2 c
              exact (b_Mod_isWrong_928 hd h).less (e_sc (List.mem_of_getElem? (i := 2) rfl) e_sn)
set_option maxRecDepth 100000 in
def w_Mod_isWrong_145 (l0 : Nat) (l1 : Int32) (l2 : Int32) (l3 : Int32) (l4 : Int32) (l5 : Int32) (l6 : Int32) (l7 : Int32) (s0 : Int32) (M : eM) (Q : Int32 → eM → Prop) : Prop := (l5 = 3 → e_ob M l0 12 ∧ e_ai M (gr M l0 30) ((16 * l3) + l6) ∧ (¬ (gi M (gr M l0 30) ((16 * l3) + l6).toNatClampNeg) = 0 → w_Mod_isWrong_388 0 M Q) ∧ ((gi M (gr M l0 30) ((16 * l3) + l6).toNatClampNeg) = 0 → w_Mod_isWrong_388 1 M Q)) ∧ (¬ l5 = 3 → (l5 = 4 → w_Mod_isWrong_389 l7 M Q) ∧ (¬ l5 = 4 → (l5 = 5 → w_Mod_isWrong_389 l7 M Q) ∧ (¬ l5 = 5 → (l5 = 6 → w_Mod_isWrong_389 l7 M Q) ∧ (¬ l5 = 6 → (l5 = 7 → (l7 = 0 → w_Mod_isWrong_410 M Q) ∧ (¬ l7 = 0 → (¬ s0 = 0 → w_Mod_isWrong_415 0 M Q) ∧ (s0 = 0 → w_Mod_isWrong_410 M Q))) ∧ (¬ l5 = 7 → (l5 = 8 → w_Mod_isWrong_887 l5 l7 s0 M Q) ∧ (¬ l5 = 8 → (l5 = 9 → w_Mod_isWrong_887 l5 l7 s0 M Q) ∧ (¬ l5 = 9 → (l5 = 10 → w_Mod_isWrong_887 l5 l7 s0 M Q) ∧ (¬ l5 = 10 → (l5 = 11 → w_Mod_isWrong_887 l5 l7 s0 M Q) ∧ (¬ l5 = 11 → (l5 = 12 → w_Mod_isWrong_887 l5 l7 s0 M Q) ∧ (¬ l5 = 12 → (l5 = 13 → w_Mod_isWrong_887 l5 l7 s0 M Q) ∧ (¬ l5 = 13 → (l5 = 14 → w_Mod_isWrong_887 l5 l7 s0 M Q) ∧ (¬ l5 = 14 → (l5 = 15 → w_Mod_isWrong_887 l5 l7 s0 M Q) ∧ (¬ l5 = 15 → (l5 = 16 → w_Mod_isWrong_887 l5 l7 s0 M Q) ∧ (¬ l5 = 16 → (l5 = 17 → w_Mod_isWrong_887 l5 l7 s0 M Q) ∧ (¬ l5 = 17 → (l5 = 18 → w_Mod_isWrong_887 l5 l7 s0 M Q) ∧ (¬ l5 = 18 → (l5 = 19 → w_Mod_isWrong_416 l7 M Q) ∧ (¬ l5 = 19 → (l5 = 20 → e_ob M l0 12 ∧ e_ai M (gr M l0 30) ((16 * l3) + l6) ∧ ((gi M (gr M l0 30) ((16 * l3) + l6).toNatClampNeg) = 1 → w_Mod_isWrong_449 0 M Q) ∧ (¬ (gi M (gr M l0 30) ((16 * l3) + l6).toNatClampNeg) = 1 → w_Mod_isWrong_449 1 M Q)) ∧ (¬ l5 = 20 → (l5 = 21 → w_Mod_isWrong_887 l5 l7 s0 M Q) ∧ (¬ l5 = 21 → (l5 = 22 → w_Mod_isWrong_887 l5 l7 s0 M Q) ∧ (¬ l5 = 22 → (l5 = 23 → w_Mod_isWrong_887 l5 l7 s0 M Q) ∧ (¬ l5 = 23 → (l5 = 24 → w_Mod_isWrong_887 l5 l7 s0 M Q) ∧ (¬ l5 = 24 → (l5 = 25 → w_Mod_isWrong_887 l5 l7 s0 M Q) ∧ (¬ l5 = 25 → (l5 = 26 → w_Mod_isWrong_887 l5 l7 s0 M Q) ∧ (¬ l5 = 26 → (l5 = 27 → w_Mod_isWrong_887 l5 l7 s0 M Q) ∧ (¬ l5 = 27 → (l5 = 28 → w_Mod_isWrong_887 l5 l7 s0 M Q) ∧ (¬ l5 = 28 → (l5 = 29 → w_Mod_isWrong_887 l5 l7 s0 M Q) ∧ (¬ l5 = 29 → (l5 = 30 → w_Mod_isWrong_887 l5 l7 s0 M Q) ∧ (¬ l5 = 30 → (l5 = 31 → w_Mod_isWrong_887 l5 l7 s0 M Q) ∧ (¬ l5 = 31 → (l5 = 32 → w_Mod_isWrong_887 l5 l7 s0 M Q) ∧ (¬ l5 = 32 → (l5 = 33 → w_Mod_isWrong_887 l5 l7 s0 M Q) ∧ (¬ l5 = 33 → (l5 = 34 → w_Mod_isWrong_450 l7 M Q) ∧ (¬ l5 = 34 → (l5 = 35 → w_Mod_isWrong_450 l7 M Q) ∧ (¬ l5 = 35 → (l5 = 36 → w_Mod_isWrong_464 l7 s0 M Q) ∧ (¬ l5 = 36 → (l5 = 37 → w_Mod_isWrong_464 l7 s0 M Q) ∧ (¬ l5 = 37 → (l5 = 38 → w_Mod_isWrong_887 l5 l7 s0 M Q) ∧ (¬ l5 = 38 → (l5 = 39 → e_ob M l0 12 ∧ w_Mod_fits l0 l7 (16 + l6) M (fun (v7 : Int32) (M6 : eM) => (¬ v7 = 0 → w_Mod_isWrong_531 0 M6 Q) ∧ (v7 = 0 → w_Mod_isWrong_531 1 M6 Q))) ∧ (¬ l5 = 39 → (l5 = 40 → e_ob M l0 12 ∧ w_Mod_fits l0 s0 (16 + l6) M (fun (v9 : Int32) (M8 : eM) => (v9 = 0 → w_Mod_isWrong_574 M8 Q) ∧ (¬ v9 = 0 → e_ob M8 l0 12 ∧ e_ob M8 l0 12 ∧ w_Mod_byteAt l0 l1 (l2 + 2) M8 (fun (v11 : Int32) (M10 : eM) => e_ai M10 (gr M8 l0 14) ((8 * l6) + v11) ∧ e_ob M10 l0 12 ∧ w_Mod_fits l0 l7 (gi M10 (gr M8 l0 14) ((8 * l6) + v11).toNatClampNeg) M10 (fun (v13 : Int32) (M12 : eM) => (¬ v13 = 0 → w_Mod_isWrong_579 0 M12 Q) ∧ (v13 = 0 → w_Mod_isWrong_574 M12 Q)))))) ∧ (¬ l5 = 40 → (l5 = 41 → w_Mod_isWrong_416 l7 M Q) ∧ (¬ l5 = 41 → (l5 = 42 → (¬ l7 = 1 → w_Mod_isWrong_596 M Q) ∧ (l7 = 1 → e_ob M l0 12 ∧ w_Mod_fits l0 s0 2 M (fun (v15 : Int32) (M14 : eM) => (¬ v15 = 0 → w_Mod_isWrong_601 0 M14 Q) ∧ (v15 = 0 → w_Mod_isWrong_596 M14 Q)))) ∧ (¬ l5 = 42 → (l5 = 43 → (¬ l7 = 1 → w_Mod_isWrong_631 M Q) ∧ (l7 = 1 → (¬ s0 = 1 → w_Mod_isWrong_631 M Q) ∧ (s0 = 1 → e_ob M l0 12 ∧ e_ai M (gr M l0 30) (l4 - 3) ∧ e_ob M l0 12 ∧ w_Mod_fits l0 (gi M (gr M l0 30) (l4 - 3).toNatClampNeg) 2 M (fun (v17 : Int32) (M16 : eM) => (¬ v17 = 0 → w_Mod_isWrong_636 0 M16 Q) ∧ (v17 = 0 → w_Mod_isWrong_631 M16 Q))))) ∧ (¬ l5 = 43 → (l5 = 44 → e_ob M l0 12 ∧ w_Mod_fits l0 l7 2 M (fun (v19 : Int32) (M18 : eM) => (¬ v19 = 0 → w_Mod_isWrong_652 0 M18 Q) ∧ (v19 = 0 → w_Mod_isWrong_652 1 M18 Q))) ∧ (¬ l5 = 44 → (l5 = 45 → w_Mod_isWrong_653 l7 M Q) ∧ (¬ l5 = 45 → (l5 = 46 → w_Mod_isWrong_653 l7 M Q) ∧ (¬ l5 = 46 → (l5 = 47 → ∃ n20 : Nat, w_Mod_isWrong_676 n20 l0 l4 l6 0 M Q) ∧ (¬ l5 = 47 → (l5 = 48 → e_ob M l0 12 ∧ e_ob M l0 12 ∧ e_ai M (gr M l0 16) l6 ∧ e_ai M (gr M l0 30) ((l4 - 1) - (gi M (gr M l0 16) l6.toNatClampNeg)) ∧ ∃ n21 : Nat, w_Mod_isWrong_757 n21 l0 l4 l6 (gi M (gr M l0 30) ((l4 - 1) - (gi M (gr M l0 16) l6.toNatClampNeg)).toNatClampNeg) 0 M Q) ∧ (¬ l5 = 48 → (l5 = 49 → e_ob M l0 12 ∧ e_ai M (gr M l0 22) l1 ∧ ((gi M (gr M l0 22) l1.toNatClampNeg) = 0 → w_Mod_isWrong_856 0 M Q) ∧ (¬ (gi M (gr M l0 22) l1.toNatClampNeg) = 0 → w_Mod_isWrong_856 1 M Q)) ∧ (¬ l5 = 49 → (l5 = 50 → e_ob M l0 12 ∧ e_ai M (gr M l0 22) l1 ∧ ((gi M (gr M l0 22) l1.toNatClampNeg) = 0 → w_Mod_isWrong_881 M Q) ∧ (¬ (gi M (gr M l0 22) l1.toNatClampNeg) = 0 → e_ob M l0 12 ∧ e_ai M (gr M l0 22) l1 ∧ e_ob M l0 12 ∧ w_Mod_fits l0 l7 (gi M (gr M l0 22) l1.toNatClampNeg) M (fun (v23 : Int32) (M22 : eM) => (¬ v23 = 0 → w_Mod_isWrong_886 0 M22 Q) ∧ (v23 = 0 → w_Mod_isWrong_881 M22 Q)))) ∧ (¬ l5 = 50 → (l5 = 51 → w_Mod_isWrong_416 l7 M Q) ∧ (¬ l5 = 51 → (l5 = 52 → w_Mod_isWrong_887 l5 l7 s0 M Q) ∧ (¬ l5 = 52 → (l5 = 53 → w_Mod_isWrong_416 l7 M Q) ∧ (¬ l5 = 53 → w_Mod_isWrong_887 l5 l7 s0 M Q)))))))))))))))))))))))))))))))))))))))))))))))))))
set_option maxRecDepth 100000 in
theorem b_Mod_isWrong_145 {d : Nat} {l0 : Nat} {l1 : Int32} {l2 : Int32} {l3 : Int32} {l4 : Int32} {l5 : Int32} {l6 : Int32} {l7 : Int32} {s0 : Int32} {M : eM} {Q : Int32 → eM → Prop} (hd : 3 ≤ d) (h : w_Mod_isWrong_145 l0 l1 l2 l3 l4 l5 l6 l7 s0 M Q ) : e_E 180 d 0 0 145 [(0, .ref l0), (1, .int l1), (2, .int l2), (3, .int l3), (4, .int l4), (5, .int l5), (6, .int l6), (7, .int l7)] [.int s0] M (e_QI Q) := by
  unfold w_Mod_isWrong_145 at h
  refine r_istore (kd180 rfl) L180 (by decide) rfl rfl ?_
  refine r_iload (kd180 rfl) rfl rfl ?_
  refine r_tableswitch (kd180 rfl) (u := 887) (qs := [(3, 368), (4, 389), (5, 389), (6, 389), (7, 400), (8, 887), (9, 887), (10, 887), (11, 887), (12, 887), (13, 887), (14, 887), (15, 887), (16, 887), (17, 887), (18, 887), (19, 416), (20, 428), (21, 887), (22, 887), (23, 887), (24, 887), (25, 887), (26, 887), (27, 887), (28, 887), (29, 887), (30, 887), (31, 887), (32, 887), (33, 887), (34, 450), (35, 450), (36, 464), (37, 464), (38, 887), (39, 512), (40, 532), (41, 416), (42, 580), (43, 602), (44, 637), (45, 653), (46, 653), (47, 673), (48, 735), (49, 842), (50, 857), (51, 416), (52, 887), (53, 416)]) rfl rfl rfl (by decide) ?_
  refine ⟨fun c => ?_, fun c => ?_⟩
  · have h := h.1 c
    refine r_aload_n (kd180 rfl) rfl rfl ?_
    obtain ⟨g, h⟩ := h
    refine r_get2 (kd180 rfl) (by decide) rfl g rfl ?_
    refine r_bipush (kd180 rfl) (y := 16) (by decide) rfl ?_
    refine r_iload_n (kd180 rfl) rfl rfl ?_
    refine r_imul (kd180 rfl) rfl ?_
    refine r_iload (kd180 rfl) rfl rfl ?_
    refine r_iadd (kd180 rfl) rfl ?_
    obtain ⟨g, h⟩ := h
    refine r_iaload (kd180 rfl) g rfl ?_
    refine r_if_ne (kd180 rfl) rfl (fun c => ?_) (fun c => ?_)
    · have h := h.1 c
      refine r_iconst (kd180 rfl) (y := 0) (by decide) rfl ?_
      exact (b_Mod_isWrong_388 hd h).less e_sn
    · have h := h.2 c
      refine r_iconst (kd180 rfl) (y := 1) (by decide) rfl ?_
      refine r_goto (kd180 rfl) ?_
      exact (b_Mod_isWrong_388 hd h).less e_sn
  have h := h.2 c
  refine ⟨fun c => ?_, fun c => ?_⟩
  · have h := h.1 c
    exact (b_Mod_isWrong_389 hd h).less (e_sc (List.mem_of_getElem? (i := 8) rfl) e_sn)
  have h := h.2 c
  refine ⟨fun c => ?_, fun c => ?_⟩
  · have h := h.1 c
    exact (b_Mod_isWrong_389 hd h).less (e_sc (List.mem_of_getElem? (i := 8) rfl) e_sn)
  have h := h.2 c
  refine ⟨fun c => ?_, fun c => ?_⟩
  · have h := h.1 c
    exact (b_Mod_isWrong_389 hd h).less (e_sc (List.mem_of_getElem? (i := 8) rfl) e_sn)
  have h := h.2 c
  refine ⟨fun c => ?_, fun c => ?_⟩
  · have h := h.1 c
    refine r_iload (kd180 rfl) rfl rfl ?_
    refine r_if_eq (kd180 rfl) rfl (fun c => ?_) (fun c => ?_)
    · have h := h.1 c
      exact (b_Mod_isWrong_410 hd h).less e_sn
    · have h := h.2 c
      refine r_iload (kd180 rfl) rfl rfl ?_
      refine r_if_ne (kd180 rfl) rfl (fun c => ?_) (fun c => ?_)
      · have h := h.1 c
        refine r_iconst (kd180 rfl) (y := 0) (by decide) rfl ?_
        exact (b_Mod_isWrong_415 hd h).less e_sn
      · have h := h.2 c
        exact (b_Mod_isWrong_410 hd h).less e_sn
  have h := h.2 c
  refine ⟨fun c => ?_, fun c => ?_⟩
  · have h := h.1 c
    exact (b_Mod_isWrong_887 hd h).less (e_sc (List.mem_of_getElem? (i := 6) rfl) (e_sc (List.mem_of_getElem? (i := 8) rfl) (e_sc (List.mem_of_getElem? (i := 0) rfl) e_sn)))
  have h := h.2 c
  refine ⟨fun c => ?_, fun c => ?_⟩
  · have h := h.1 c
    exact (b_Mod_isWrong_887 hd h).less (e_sc (List.mem_of_getElem? (i := 6) rfl) (e_sc (List.mem_of_getElem? (i := 8) rfl) (e_sc (List.mem_of_getElem? (i := 0) rfl) e_sn)))
  have h := h.2 c
  refine ⟨fun c => ?_, fun c => ?_⟩
  · have h := h.1 c
    exact (b_Mod_isWrong_887 hd h).less (e_sc (List.mem_of_getElem? (i := 6) rfl) (e_sc (List.mem_of_getElem? (i := 8) rfl) (e_sc (List.mem_of_getElem? (i := 0) rfl) e_sn)))
  have h := h.2 c
  refine ⟨fun c => ?_, fun c => ?_⟩
  · have h := h.1 c
    exact (b_Mod_isWrong_887 hd h).less (e_sc (List.mem_of_getElem? (i := 6) rfl) (e_sc (List.mem_of_getElem? (i := 8) rfl) (e_sc (List.mem_of_getElem? (i := 0) rfl) e_sn)))
  have h := h.2 c
  refine ⟨fun c => ?_, fun c => ?_⟩
  · have h := h.1 c
    exact (b_Mod_isWrong_887 hd h).less (e_sc (List.mem_of_getElem? (i := 6) rfl) (e_sc (List.mem_of_getElem? (i := 8) rfl) (e_sc (List.mem_of_getElem? (i := 0) rfl) e_sn)))
  have h := h.2 c
  refine ⟨fun c => ?_, fun c => ?_⟩
  · have h := h.1 c
    exact (b_Mod_isWrong_887 hd h).less (e_sc (List.mem_of_getElem? (i := 6) rfl) (e_sc (List.mem_of_getElem? (i := 8) rfl) (e_sc (List.mem_of_getElem? (i := 0) rfl) e_sn)))
  have h := h.2 c
  refine ⟨fun c => ?_, fun c => ?_⟩
  · have h := h.1 c
    exact (b_Mod_isWrong_887 hd h).less (e_sc (List.mem_of_getElem? (i := 6) rfl) (e_sc (List.mem_of_getElem? (i := 8) rfl) (e_sc (List.mem_of_getElem? (i := 0) rfl) e_sn)))
  have h := h.2 c
  refine ⟨fun c => ?_, fun c => ?_⟩
  · have h := h.1 c
    exact (b_Mod_isWrong_887 hd h).less (e_sc (List.mem_of_getElem? (i := 6) rfl) (e_sc (List.mem_of_getElem? (i := 8) rfl) (e_sc (List.mem_of_getElem? (i := 0) rfl) e_sn)))
  have h := h.2 c
  refine ⟨fun c => ?_, fun c => ?_⟩
  · have h := h.1 c
    exact (b_Mod_isWrong_887 hd h).less (e_sc (List.mem_of_getElem? (i := 6) rfl) (e_sc (List.mem_of_getElem? (i := 8) rfl) (e_sc (List.mem_of_getElem? (i := 0) rfl) e_sn)))
  have h := h.2 c
  refine ⟨fun c => ?_, fun c => ?_⟩
  · have h := h.1 c
    exact (b_Mod_isWrong_887 hd h).less (e_sc (List.mem_of_getElem? (i := 6) rfl) (e_sc (List.mem_of_getElem? (i := 8) rfl) (e_sc (List.mem_of_getElem? (i := 0) rfl) e_sn)))
  have h := h.2 c
  refine ⟨fun c => ?_, fun c => ?_⟩
  · have h := h.1 c
    exact (b_Mod_isWrong_887 hd h).less (e_sc (List.mem_of_getElem? (i := 6) rfl) (e_sc (List.mem_of_getElem? (i := 8) rfl) (e_sc (List.mem_of_getElem? (i := 0) rfl) e_sn)))
  have h := h.2 c
  refine ⟨fun c => ?_, fun c => ?_⟩
  · have h := h.1 c
    exact (b_Mod_isWrong_416 hd h).less (e_sc (List.mem_of_getElem? (i := 8) rfl) e_sn)
  have h := h.2 c
  refine ⟨fun c => ?_, fun c => ?_⟩
  · have h := h.1 c
    refine r_aload_n (kd180 rfl) rfl rfl ?_
    obtain ⟨g, h⟩ := h
    refine r_get2 (kd180 rfl) (by decide) rfl g rfl ?_
    refine r_bipush (kd180 rfl) (y := 16) (by decide) rfl ?_
    refine r_iload_n (kd180 rfl) rfl rfl ?_
    refine r_imul (kd180 rfl) rfl ?_
    refine r_iload (kd180 rfl) rfl rfl ?_
    refine r_iadd (kd180 rfl) rfl ?_
    obtain ⟨g, h⟩ := h
    refine r_iaload (kd180 rfl) g rfl ?_
    refine r_iconst (kd180 rfl) (y := 1) (by decide) rfl ?_
    refine r_icmp_eq (kd180 rfl) rfl (fun c => ?_) (fun c => ?_)
    · have h := h.1 c
      refine r_iconst (kd180 rfl) (y := 0) (by decide) rfl ?_
      exact (b_Mod_isWrong_449 hd h).less e_sn
    · have h := h.2 c
      refine r_iconst (kd180 rfl) (y := 1) (by decide) rfl ?_
      refine r_goto (kd180 rfl) ?_
      exact (b_Mod_isWrong_449 hd h).less e_sn
  have h := h.2 c
  refine ⟨fun c => ?_, fun c => ?_⟩
  · have h := h.1 c
    exact (b_Mod_isWrong_887 hd h).less (e_sc (List.mem_of_getElem? (i := 6) rfl) (e_sc (List.mem_of_getElem? (i := 8) rfl) (e_sc (List.mem_of_getElem? (i := 0) rfl) e_sn)))
  have h := h.2 c
  refine ⟨fun c => ?_, fun c => ?_⟩
  · have h := h.1 c
    exact (b_Mod_isWrong_887 hd h).less (e_sc (List.mem_of_getElem? (i := 6) rfl) (e_sc (List.mem_of_getElem? (i := 8) rfl) (e_sc (List.mem_of_getElem? (i := 0) rfl) e_sn)))
  have h := h.2 c
  refine ⟨fun c => ?_, fun c => ?_⟩
  · have h := h.1 c
    exact (b_Mod_isWrong_887 hd h).less (e_sc (List.mem_of_getElem? (i := 6) rfl) (e_sc (List.mem_of_getElem? (i := 8) rfl) (e_sc (List.mem_of_getElem? (i := 0) rfl) e_sn)))
  have h := h.2 c
  refine ⟨fun c => ?_, fun c => ?_⟩
  · have h := h.1 c
    exact (b_Mod_isWrong_887 hd h).less (e_sc (List.mem_of_getElem? (i := 6) rfl) (e_sc (List.mem_of_getElem? (i := 8) rfl) (e_sc (List.mem_of_getElem? (i := 0) rfl) e_sn)))
  have h := h.2 c
  refine ⟨fun c => ?_, fun c => ?_⟩
  · have h := h.1 c
    exact (b_Mod_isWrong_887 hd h).less (e_sc (List.mem_of_getElem? (i := 6) rfl) (e_sc (List.mem_of_getElem? (i := 8) rfl) (e_sc (List.mem_of_getElem? (i := 0) rfl) e_sn)))
  have h := h.2 c
  refine ⟨fun c => ?_, fun c => ?_⟩
  · have h := h.1 c
    exact (b_Mod_isWrong_887 hd h).less (e_sc (List.mem_of_getElem? (i := 6) rfl) (e_sc (List.mem_of_getElem? (i := 8) rfl) (e_sc (List.mem_of_getElem? (i := 0) rfl) e_sn)))
  have h := h.2 c
  refine ⟨fun c => ?_, fun c => ?_⟩
  · have h := h.1 c
    exact (b_Mod_isWrong_887 hd h).less (e_sc (List.mem_of_getElem? (i := 6) rfl) (e_sc (List.mem_of_getElem? (i := 8) rfl) (e_sc (List.mem_of_getElem? (i := 0) rfl) e_sn)))
  have h := h.2 c
  refine ⟨fun c => ?_, fun c => ?_⟩
  · have h := h.1 c
    exact (b_Mod_isWrong_887 hd h).less (e_sc (List.mem_of_getElem? (i := 6) rfl) (e_sc (List.mem_of_getElem? (i := 8) rfl) (e_sc (List.mem_of_getElem? (i := 0) rfl) e_sn)))
  have h := h.2 c
  refine ⟨fun c => ?_, fun c => ?_⟩
  · have h := h.1 c
    exact (b_Mod_isWrong_887 hd h).less (e_sc (List.mem_of_getElem? (i := 6) rfl) (e_sc (List.mem_of_getElem? (i := 8) rfl) (e_sc (List.mem_of_getElem? (i := 0) rfl) e_sn)))
  have h := h.2 c
  refine ⟨fun c => ?_, fun c => ?_⟩
  · have h := h.1 c
    exact (b_Mod_isWrong_887 hd h).less (e_sc (List.mem_of_getElem? (i := 6) rfl) (e_sc (List.mem_of_getElem? (i := 8) rfl) (e_sc (List.mem_of_getElem? (i := 0) rfl) e_sn)))
  have h := h.2 c
  refine ⟨fun c => ?_, fun c => ?_⟩
  · have h := h.1 c
    exact (b_Mod_isWrong_887 hd h).less (e_sc (List.mem_of_getElem? (i := 6) rfl) (e_sc (List.mem_of_getElem? (i := 8) rfl) (e_sc (List.mem_of_getElem? (i := 0) rfl) e_sn)))
  have h := h.2 c
  refine ⟨fun c => ?_, fun c => ?_⟩
  · have h := h.1 c
    exact (b_Mod_isWrong_887 hd h).less (e_sc (List.mem_of_getElem? (i := 6) rfl) (e_sc (List.mem_of_getElem? (i := 8) rfl) (e_sc (List.mem_of_getElem? (i := 0) rfl) e_sn)))
  have h := h.2 c
  refine ⟨fun c => ?_, fun c => ?_⟩
  · have h := h.1 c
    exact (b_Mod_isWrong_887 hd h).less (e_sc (List.mem_of_getElem? (i := 6) rfl) (e_sc (List.mem_of_getElem? (i := 8) rfl) (e_sc (List.mem_of_getElem? (i := 0) rfl) e_sn)))
  have h := h.2 c
  refine ⟨fun c => ?_, fun c => ?_⟩
  · have h := h.1 c
    exact (b_Mod_isWrong_450 hd h).less (e_sc (List.mem_of_getElem? (i := 8) rfl) e_sn)
  have h := h.2 c
  refine ⟨fun c => ?_, fun c => ?_⟩
  · have h := h.1 c
    exact (b_Mod_isWrong_450 hd h).less (e_sc (List.mem_of_getElem? (i := 8) rfl) e_sn)
  have h := h.2 c
  refine ⟨fun c => ?_, fun c => ?_⟩
  · have h := h.1 c
    exact (b_Mod_isWrong_464 hd h).less (e_sc (List.mem_of_getElem? (i := 8) rfl) (e_sc (List.mem_of_getElem? (i := 0) rfl) e_sn))
  have h := h.2 c
  refine ⟨fun c => ?_, fun c => ?_⟩
  · have h := h.1 c
    exact (b_Mod_isWrong_464 hd h).less (e_sc (List.mem_of_getElem? (i := 8) rfl) (e_sc (List.mem_of_getElem? (i := 0) rfl) e_sn))
  have h := h.2 c
  refine ⟨fun c => ?_, fun c => ?_⟩
  · have h := h.1 c
    exact (b_Mod_isWrong_887 hd h).less (e_sc (List.mem_of_getElem? (i := 6) rfl) (e_sc (List.mem_of_getElem? (i := 8) rfl) (e_sc (List.mem_of_getElem? (i := 0) rfl) e_sn)))
  have h := h.2 c
  refine ⟨fun c => ?_, fun c => ?_⟩
  · have h := h.1 c
    refine r_aload_n (kd180 rfl) rfl rfl ?_
    refine r_iload (kd180 rfl) rfl rfl ?_
    refine r_bipush (kd180 rfl) (y := 16) (by decide) rfl ?_
    refine r_iload (kd180 rfl) rfl rfl ?_
    refine r_iadd (kd180 rfl) rfl ?_
    obtain ⟨g, h⟩ := h
    refine r_callVI (d' := d - 1) (by omega) (kd180 rfl) (by decide) rfl rfl rfl rfl (Nat.le_of_ble_eq_true rfl) rfl L178 (Nat.le_of_ble_eq_true rfl) (Nat.le_of_ble_eq_true rfl) g (Nat.zero_le _) (Nat.zero_le _) rfl rfl rfl (b_Mod_fits (by omega) h) (fun x1 M1 h => ?_)
    refine r_if_ne (kd180 rfl) rfl (fun c => ?_) (fun c => ?_)
    · have h := h.1 c
      refine r_iconst (kd180 rfl) (y := 0) (by decide) rfl ?_
      exact (b_Mod_isWrong_531 hd h).less e_sn
    · have h := h.2 c
      refine r_iconst (kd180 rfl) (y := 1) (by decide) rfl ?_
      refine r_goto (kd180 rfl) ?_
      exact (b_Mod_isWrong_531 hd h).less e_sn
  have h := h.2 c
  refine ⟨fun c => ?_, fun c => ?_⟩
  · have h := h.1 c
    refine r_aload_n (kd180 rfl) rfl rfl ?_
    refine r_iload (kd180 rfl) rfl rfl ?_
    refine r_bipush (kd180 rfl) (y := 16) (by decide) rfl ?_
    refine r_iload (kd180 rfl) rfl rfl ?_
    refine r_iadd (kd180 rfl) rfl ?_
    obtain ⟨g, h⟩ := h
    refine r_callVI (d' := d - 1) (by omega) (kd180 rfl) (by decide) rfl rfl rfl rfl (Nat.le_of_ble_eq_true rfl) rfl L178 (Nat.le_of_ble_eq_true rfl) (Nat.le_of_ble_eq_true rfl) g (Nat.zero_le _) (Nat.zero_le _) rfl rfl rfl (b_Mod_fits (by omega) h) (fun x1 M1 h => ?_)
    refine r_if_eq (kd180 rfl) rfl (fun c => ?_) (fun c => ?_)
    · have h := h.1 c
      exact (b_Mod_isWrong_574 hd h).less e_sn
    · have h := h.2 c
      refine r_aload_n (kd180 rfl) rfl rfl ?_
      refine r_iload (kd180 rfl) rfl rfl ?_
      refine r_aload_n (kd180 rfl) rfl rfl ?_
      obtain ⟨g, h⟩ := h
      refine r_get2 (kd180 rfl) (by decide) rfl g rfl ?_
      refine r_bipush (kd180 rfl) (y := 8) (by decide) rfl ?_
      refine r_iload (kd180 rfl) rfl rfl ?_
      refine r_imul (kd180 rfl) rfl ?_
      refine r_aload_n (kd180 rfl) rfl rfl ?_
      refine r_iload_n (kd180 rfl) rfl rfl ?_
      refine r_iload_n (kd180 rfl) rfl rfl ?_
      refine r_iconst (kd180 rfl) (y := 2) (by decide) rfl ?_
      refine r_iadd (kd180 rfl) rfl ?_
      obtain ⟨g, h⟩ := h
      refine r_callVI (d' := d - 1) (by omega) (kd180 rfl) (by decide) rfl rfl rfl rfl (Nat.le_of_ble_eq_true rfl) rfl L158 (Nat.le_of_ble_eq_true rfl) (Nat.le_of_ble_eq_true rfl) g (Nat.zero_le _) (Nat.zero_le _) rfl rfl rfl (b_Mod_byteAt (by omega) h) (fun x1 M1 h => ?_)
      refine r_iadd (kd180 rfl) rfl ?_
      obtain ⟨g, h⟩ := h
      refine r_iaload (kd180 rfl) g rfl ?_
      obtain ⟨g, h⟩ := h
      refine r_callVI (d' := d - 1) (by omega) (kd180 rfl) (by decide) rfl rfl rfl rfl (Nat.le_of_ble_eq_true rfl) rfl L178 (Nat.le_of_ble_eq_true rfl) (Nat.le_of_ble_eq_true rfl) g (Nat.zero_le _) (Nat.zero_le _) rfl rfl rfl (b_Mod_fits (by omega) h) (fun x1 M1 h => ?_)
      refine r_if_ne (kd180 rfl) rfl (fun c => ?_) (fun c => ?_)
      · have h := h.1 c
        refine r_iconst (kd180 rfl) (y := 0) (by decide) rfl ?_
        exact (b_Mod_isWrong_579 hd h).less e_sn
      · have h := h.2 c
        exact (b_Mod_isWrong_574 hd h).less e_sn
  have h := h.2 c
  refine ⟨fun c => ?_, fun c => ?_⟩
  · have h := h.1 c
    exact (b_Mod_isWrong_416 hd h).less (e_sc (List.mem_of_getElem? (i := 8) rfl) e_sn)
  have h := h.2 c
  refine ⟨fun c => ?_, fun c => ?_⟩
  · have h := h.1 c
    refine r_iload (kd180 rfl) rfl rfl ?_
    refine r_iconst (kd180 rfl) (y := 1) (by decide) rfl ?_
    refine r_icmp_ne (kd180 rfl) rfl (fun c => ?_) (fun c => ?_)
    · have h := h.1 c
      exact (b_Mod_isWrong_596 hd h).less e_sn
    · have h := h.2 c
      refine r_aload_n (kd180 rfl) rfl rfl ?_
      refine r_iload (kd180 rfl) rfl rfl ?_
      refine r_iconst (kd180 rfl) (y := 2) (by decide) rfl ?_
      obtain ⟨g, h⟩ := h
      refine r_callVI (d' := d - 1) (by omega) (kd180 rfl) (by decide) rfl rfl rfl rfl (Nat.le_of_ble_eq_true rfl) rfl L178 (Nat.le_of_ble_eq_true rfl) (Nat.le_of_ble_eq_true rfl) g (Nat.zero_le _) (Nat.zero_le _) rfl rfl rfl (b_Mod_fits (by omega) h) (fun x1 M1 h => ?_)
      refine r_if_ne (kd180 rfl) rfl (fun c => ?_) (fun c => ?_)
      · have h := h.1 c
        refine r_iconst (kd180 rfl) (y := 0) (by decide) rfl ?_
        exact (b_Mod_isWrong_601 hd h).less e_sn
      · have h := h.2 c
        exact (b_Mod_isWrong_596 hd h).less e_sn
  have h := h.2 c
  refine ⟨fun c => ?_, fun c => ?_⟩
  · have h := h.1 c
    refine r_iload (kd180 rfl) rfl rfl ?_
    refine r_iconst (kd180 rfl) (y := 1) (by decide) rfl ?_
    refine r_icmp_ne (kd180 rfl) rfl (fun c => ?_) (fun c => ?_)
    · have h := h.1 c
      exact (b_Mod_isWrong_631 hd h).less e_sn
    · have h := h.2 c
      refine r_iload (kd180 rfl) rfl rfl ?_
      refine r_iconst (kd180 rfl) (y := 1) (by decide) rfl ?_
      refine r_icmp_ne (kd180 rfl) rfl (fun c => ?_) (fun c => ?_)
      · have h := h.1 c
        exact (b_Mod_isWrong_631 hd h).less e_sn
      · have h := h.2 c
        refine r_aload_n (kd180 rfl) rfl rfl ?_
        refine r_aload_n (kd180 rfl) rfl rfl ?_
        obtain ⟨g, h⟩ := h
        refine r_get2 (kd180 rfl) (by decide) rfl g rfl ?_
        refine r_iload (kd180 rfl) rfl rfl ?_
        refine r_iconst (kd180 rfl) (y := 3) (by decide) rfl ?_
        refine r_isub (kd180 rfl) rfl ?_
        obtain ⟨g, h⟩ := h
        refine r_iaload (kd180 rfl) g rfl ?_
        refine r_iconst (kd180 rfl) (y := 2) (by decide) rfl ?_
        obtain ⟨g, h⟩ := h
        refine r_callVI (d' := d - 1) (by omega) (kd180 rfl) (by decide) rfl rfl rfl rfl (Nat.le_of_ble_eq_true rfl) rfl L178 (Nat.le_of_ble_eq_true rfl) (Nat.le_of_ble_eq_true rfl) g (Nat.zero_le _) (Nat.zero_le _) rfl rfl rfl (b_Mod_fits (by omega) h) (fun x1 M1 h => ?_)
        refine r_if_ne (kd180 rfl) rfl (fun c => ?_) (fun c => ?_)
        · have h := h.1 c
          refine r_iconst (kd180 rfl) (y := 0) (by decide) rfl ?_
          exact (b_Mod_isWrong_636 hd h).less e_sn
        · have h := h.2 c
          exact (b_Mod_isWrong_631 hd h).less e_sn
  have h := h.2 c
  refine ⟨fun c => ?_, fun c => ?_⟩
  · have h := h.1 c
    refine r_aload_n (kd180 rfl) rfl rfl ?_
    refine r_iload (kd180 rfl) rfl rfl ?_
    refine r_iconst (kd180 rfl) (y := 2) (by decide) rfl ?_
    obtain ⟨g, h⟩ := h
    refine r_callVI (d' := d - 1) (by omega) (kd180 rfl) (by decide) rfl rfl rfl rfl (Nat.le_of_ble_eq_true rfl) rfl L178 (Nat.le_of_ble_eq_true rfl) (Nat.le_of_ble_eq_true rfl) g (Nat.zero_le _) (Nat.zero_le _) rfl rfl rfl (b_Mod_fits (by omega) h) (fun x1 M1 h => ?_)
    refine r_if_ne (kd180 rfl) rfl (fun c => ?_) (fun c => ?_)
    · have h := h.1 c
      refine r_iconst (kd180 rfl) (y := 0) (by decide) rfl ?_
      exact (b_Mod_isWrong_652 hd h).less e_sn
    · have h := h.2 c
      refine r_iconst (kd180 rfl) (y := 1) (by decide) rfl ?_
      refine r_goto (kd180 rfl) ?_
      exact (b_Mod_isWrong_652 hd h).less e_sn
  have h := h.2 c
  refine ⟨fun c => ?_, fun c => ?_⟩
  · have h := h.1 c
    exact (b_Mod_isWrong_653 hd h).less (e_sc (List.mem_of_getElem? (i := 8) rfl) e_sn)
  have h := h.2 c
  refine ⟨fun c => ?_, fun c => ?_⟩
  · have h := h.1 c
    exact (b_Mod_isWrong_653 hd h).less (e_sc (List.mem_of_getElem? (i := 8) rfl) e_sn)
  have h := h.2 c
  refine ⟨fun c => ?_, fun c => ?_⟩
  · have h := h.1 c
    refine r_iconst (kd180 rfl) (y := 0) (by decide) rfl ?_
    refine r_istore (kd180 rfl) L180 (by decide) rfl rfl ?_
    obtain ⟨n, h⟩ := h
    exact (b_Mod_isWrong_676 hd n _ _ _ _ _ h).less (e_sc (List.mem_of_getElem? (i := 2) rfl) (e_sc (List.mem_of_getElem? (i := 6) rfl) (e_sc (List.mem_of_getElem? (i := 8) rfl) (e_sc (List.mem_of_getElem? (i := 0) rfl) e_sn))))
  have h := h.2 c
  refine ⟨fun c => ?_, fun c => ?_⟩
  · have h := h.1 c
    refine r_aload_n (kd180 rfl) rfl rfl ?_
    obtain ⟨g, h⟩ := h
    refine r_get2 (kd180 rfl) (by decide) rfl g rfl ?_
    refine r_iload (kd180 rfl) rfl rfl ?_
    refine r_iconst (kd180 rfl) (y := 1) (by decide) rfl ?_
    refine r_isub (kd180 rfl) rfl ?_
    refine r_aload_n (kd180 rfl) rfl rfl ?_
    obtain ⟨g, h⟩ := h
    refine r_get2 (kd180 rfl) (by decide) rfl g rfl ?_
    refine r_iload (kd180 rfl) rfl rfl ?_
    obtain ⟨g, h⟩ := h
    refine r_iaload (kd180 rfl) g rfl ?_
    refine r_isub (kd180 rfl) rfl ?_
    obtain ⟨g, h⟩ := h
    refine r_iaload (kd180 rfl) g rfl ?_
    refine r_istore (kd180 rfl) L180 (by decide) rfl rfl ?_
    refine r_iconst (kd180 rfl) (y := 0) (by decide) rfl ?_
    refine r_istore (kd180 rfl) L180 (by decide) rfl rfl ?_
    obtain ⟨n, h⟩ := h
    exact (b_Mod_isWrong_757 hd n _ _ _ _ _ _ h).less (e_sc (List.mem_of_getElem? (i := 3) rfl) (e_sc (List.mem_of_getElem? (i := 7) rfl) (e_sc (List.mem_of_getElem? (i := 9) rfl) (e_sc (List.mem_of_getElem? (i := 1) rfl) (e_sc (List.mem_of_getElem? (i := 0) rfl) e_sn)))))
  have h := h.2 c
  refine ⟨fun c => ?_, fun c => ?_⟩
  · have h := h.1 c
    refine r_aload_n (kd180 rfl) rfl rfl ?_
    obtain ⟨g, h⟩ := h
    refine r_get2 (kd180 rfl) (by decide) rfl g rfl ?_
    refine r_iload_n (kd180 rfl) rfl rfl ?_
    obtain ⟨g, h⟩ := h
    refine r_iaload (kd180 rfl) g rfl ?_
    refine r_if_eq (kd180 rfl) rfl (fun c => ?_) (fun c => ?_)
    · have h := h.1 c
      refine r_iconst (kd180 rfl) (y := 0) (by decide) rfl ?_
      exact (b_Mod_isWrong_856 hd h).less e_sn
    · have h := h.2 c
      refine r_iconst (kd180 rfl) (y := 1) (by decide) rfl ?_
      refine r_goto (kd180 rfl) ?_
      exact (b_Mod_isWrong_856 hd h).less e_sn
  have h := h.2 c
  refine ⟨fun c => ?_, fun c => ?_⟩
  · have h := h.1 c
    refine r_aload_n (kd180 rfl) rfl rfl ?_
    obtain ⟨g, h⟩ := h
    refine r_get2 (kd180 rfl) (by decide) rfl g rfl ?_
    refine r_iload_n (kd180 rfl) rfl rfl ?_
    obtain ⟨g, h⟩ := h
    refine r_iaload (kd180 rfl) g rfl ?_
    refine r_if_eq (kd180 rfl) rfl (fun c => ?_) (fun c => ?_)
    · have h := h.1 c
      exact (b_Mod_isWrong_881 hd h).less e_sn
    · have h := h.2 c
      refine r_aload_n (kd180 rfl) rfl rfl ?_
      refine r_iload (kd180 rfl) rfl rfl ?_
      refine r_aload_n (kd180 rfl) rfl rfl ?_
      obtain ⟨g, h⟩ := h
      refine r_get2 (kd180 rfl) (by decide) rfl g rfl ?_
      refine r_iload_n (kd180 rfl) rfl rfl ?_
      obtain ⟨g, h⟩ := h
      refine r_iaload (kd180 rfl) g rfl ?_
      obtain ⟨g, h⟩ := h
      refine r_callVI (d' := d - 1) (by omega) (kd180 rfl) (by decide) rfl rfl rfl rfl (Nat.le_of_ble_eq_true rfl) rfl L178 (Nat.le_of_ble_eq_true rfl) (Nat.le_of_ble_eq_true rfl) g (Nat.zero_le _) (Nat.zero_le _) rfl rfl rfl (b_Mod_fits (by omega) h) (fun x1 M1 h => ?_)
      refine r_if_ne (kd180 rfl) rfl (fun c => ?_) (fun c => ?_)
      · have h := h.1 c
        refine r_iconst (kd180 rfl) (y := 0) (by decide) rfl ?_
        exact (b_Mod_isWrong_886 hd h).less e_sn
      · have h := h.2 c
        exact (b_Mod_isWrong_881 hd h).less e_sn
  have h := h.2 c
  refine ⟨fun c => ?_, fun c => ?_⟩
  · have h := h.1 c
    exact (b_Mod_isWrong_416 hd h).less (e_sc (List.mem_of_getElem? (i := 8) rfl) e_sn)
  have h := h.2 c
  refine ⟨fun c => ?_, fun c => ?_⟩
  · have h := h.1 c
    exact (b_Mod_isWrong_887 hd h).less (e_sc (List.mem_of_getElem? (i := 6) rfl) (e_sc (List.mem_of_getElem? (i := 8) rfl) (e_sc (List.mem_of_getElem? (i := 0) rfl) e_sn)))
  have h := h.2 c
  refine ⟨fun c => ?_, fun c => ?_⟩
  · have h := h.1 c
    exact (b_Mod_isWrong_416 hd h).less (e_sc (List.mem_of_getElem? (i := 8) rfl) e_sn)
  have h := h.2 c
  show e_E 180 _ _ _ 887 _ _ _ _
  exact (b_Mod_isWrong_887 hd h).less (e_sc (List.mem_of_getElem? (i := 6) rfl) (e_sc (List.mem_of_getElem? (i := 8) rfl) (e_sc (List.mem_of_getElem? (i := 0) rfl) e_sn)))
set_option maxRecDepth 100000 in
def w_Mod_isWrong_120 (l0 : Nat) (l1 : Int32) (l2 : Int32) (l3 : Int32) (l4 : Int32) (l5 : Int32) (l6 : Int32) (s0 : Int32) (M : eM) (Q : Int32 → eM → Prop) : Prop := e_ob M l0 12 ∧ e_ai M (gr M l0 29) l3 ∧ ((gi M (gr M l0 29) l3.toNatClampNeg) ≤ 1 → w_Mod_isWrong_145 l0 l1 l2 l3 l4 l5 l6 s0 0 M Q) ∧ (¬ (gi M (gr M l0 29) l3.toNatClampNeg) ≤ 1 → e_ob M l0 12 ∧ e_ai M (gr M l0 30) (l4 - 2) ∧ w_Mod_isWrong_145 l0 l1 l2 l3 l4 l5 l6 s0 (gi M (gr M l0 30) (l4 - 2).toNatClampNeg) M Q)
set_option maxRecDepth 100000 in
theorem b_Mod_isWrong_120 {d : Nat} {l0 : Nat} {l1 : Int32} {l2 : Int32} {l3 : Int32} {l4 : Int32} {l5 : Int32} {l6 : Int32} {s0 : Int32} {M : eM} {Q : Int32 → eM → Prop} (hd : 3 ≤ d) (h : w_Mod_isWrong_120 l0 l1 l2 l3 l4 l5 l6 s0 M Q ) : e_E 180 d 0 0 120 [(0, .ref l0), (1, .int l1), (2, .int l2), (3, .int l3), (4, .int l4), (5, .int l5), (6, .int l6)] [.int s0] M (e_QI Q) := by
  unfold w_Mod_isWrong_120 at h
  refine r_istore (kd180 rfl) L180 (by decide) rfl rfl ?_
  refine r_aload_n (kd180 rfl) rfl rfl ?_
  obtain ⟨g, h⟩ := h
  refine r_get2 (kd180 rfl) (by decide) rfl g rfl ?_
  refine r_iload_n (kd180 rfl) rfl rfl ?_
  obtain ⟨g, h⟩ := h
  refine r_iaload (kd180 rfl) g rfl ?_
  refine r_iconst (kd180 rfl) (y := 1) (by decide) rfl ?_
  refine r_icmp_le (kd180 rfl) rfl (fun c => ?_) (fun c => ?_)
  · have h := h.1 c
    refine r_iconst (kd180 rfl) (y := 0) (by decide) rfl ?_
    exact (b_Mod_isWrong_145 hd h).less (e_sc (List.mem_of_getElem? (i := 1) rfl) (e_sc (List.mem_of_getElem? (i := 2) rfl) (e_sc (List.mem_of_getElem? (i := 3) rfl) (e_sc (List.mem_of_getElem? (i := 4) rfl) (e_sc (List.mem_of_getElem? (i := 5) rfl) (e_sc (List.mem_of_getElem? (i := 6) rfl) (e_sc (List.mem_of_getElem? (i := 7) rfl) (e_sc (List.mem_of_getElem? (i := 0) rfl) e_sn))))))))
  · have h := h.2 c
    refine r_aload_n (kd180 rfl) rfl rfl ?_
    obtain ⟨g, h⟩ := h
    refine r_get2 (kd180 rfl) (by decide) rfl g rfl ?_
    refine r_iload (kd180 rfl) rfl rfl ?_
    refine r_iconst (kd180 rfl) (y := 2) (by decide) rfl ?_
    refine r_isub (kd180 rfl) rfl ?_
    obtain ⟨g, h⟩ := h
    refine r_iaload (kd180 rfl) g rfl ?_
    refine r_goto (kd180 rfl) ?_
    exact (b_Mod_isWrong_145 hd h).less (e_sc (List.mem_of_getElem? (i := 1) rfl) (e_sc (List.mem_of_getElem? (i := 2) rfl) (e_sc (List.mem_of_getElem? (i := 3) rfl) (e_sc (List.mem_of_getElem? (i := 4) rfl) (e_sc (List.mem_of_getElem? (i := 5) rfl) (e_sc (List.mem_of_getElem? (i := 6) rfl) (e_sc (List.mem_of_getElem? (i := 7) rfl) (e_sc (List.mem_of_getElem? (i := 0) rfl) e_sn))))))))
set_option maxRecDepth 100000 in
def w_Mod_isWrong_96 (l0 : Nat) (l1 : Int32) (l2 : Int32) (l3 : Int32) (l4 : Int32) (l5 : Int32) (s0 : Int32) (M : eM) (Q : Int32 → eM → Prop) : Prop := e_ob M l0 12 ∧ e_ai M (gr M l0 29) l3 ∧ ((gi M (gr M l0 29) l3.toNatClampNeg) ≤ 0 → w_Mod_isWrong_120 l0 l1 l2 l3 l4 l5 s0 0 M Q) ∧ (¬ (gi M (gr M l0 29) l3.toNatClampNeg) ≤ 0 → e_ob M l0 12 ∧ e_ai M (gr M l0 30) (l4 - 1) ∧ w_Mod_isWrong_120 l0 l1 l2 l3 l4 l5 s0 (gi M (gr M l0 30) (l4 - 1).toNatClampNeg) M Q)
set_option maxRecDepth 100000 in
theorem b_Mod_isWrong_96 {d : Nat} {l0 : Nat} {l1 : Int32} {l2 : Int32} {l3 : Int32} {l4 : Int32} {l5 : Int32} {s0 : Int32} {M : eM} {Q : Int32 → eM → Prop} (hd : 3 ≤ d) (h : w_Mod_isWrong_96 l0 l1 l2 l3 l4 l5 s0 M Q ) : e_E 180 d 0 0 96 [(0, .ref l0), (1, .int l1), (2, .int l2), (3, .int l3), (4, .int l4), (5, .int l5)] [.int s0] M (e_QI Q) := by
  unfold w_Mod_isWrong_96 at h
  refine r_istore (kd180 rfl) L180 (by decide) rfl rfl ?_
  refine r_aload_n (kd180 rfl) rfl rfl ?_
  obtain ⟨g, h⟩ := h
  refine r_get2 (kd180 rfl) (by decide) rfl g rfl ?_
  refine r_iload_n (kd180 rfl) rfl rfl ?_
  obtain ⟨g, h⟩ := h
  refine r_iaload (kd180 rfl) g rfl ?_
  refine r_if_le (kd180 rfl) rfl (fun c => ?_) (fun c => ?_)
  · have h := h.1 c
    refine r_iconst (kd180 rfl) (y := 0) (by decide) rfl ?_
    exact (b_Mod_isWrong_120 hd h).less (e_sc (List.mem_of_getElem? (i := 1) rfl) (e_sc (List.mem_of_getElem? (i := 2) rfl) (e_sc (List.mem_of_getElem? (i := 3) rfl) (e_sc (List.mem_of_getElem? (i := 4) rfl) (e_sc (List.mem_of_getElem? (i := 5) rfl) (e_sc (List.mem_of_getElem? (i := 6) rfl) (e_sc (List.mem_of_getElem? (i := 0) rfl) e_sn)))))))
  · have h := h.2 c
    refine r_aload_n (kd180 rfl) rfl rfl ?_
    obtain ⟨g, h⟩ := h
    refine r_get2 (kd180 rfl) (by decide) rfl g rfl ?_
    refine r_iload (kd180 rfl) rfl rfl ?_
    refine r_iconst (kd180 rfl) (y := 1) (by decide) rfl ?_
    refine r_isub (kd180 rfl) rfl ?_
    obtain ⟨g, h⟩ := h
    refine r_iaload (kd180 rfl) g rfl ?_
    refine r_goto (kd180 rfl) ?_
    exact (b_Mod_isWrong_120 hd h).less (e_sc (List.mem_of_getElem? (i := 1) rfl) (e_sc (List.mem_of_getElem? (i := 2) rfl) (e_sc (List.mem_of_getElem? (i := 3) rfl) (e_sc (List.mem_of_getElem? (i := 4) rfl) (e_sc (List.mem_of_getElem? (i := 5) rfl) (e_sc (List.mem_of_getElem? (i := 6) rfl) (e_sc (List.mem_of_getElem? (i := 0) rfl) e_sn)))))))
set_option maxRecDepth 100000 in
def w_Mod_isWrong (l0 : Nat) (l1 : Int32) (l2 : Int32) (M : eM) (Q : Int32 → eM → Prop) : Prop := e_ob M l0 12 ∧ e_ai M (gr M l0 29) ((120 * l1) + l2) ∧ (¬ (gi M (gr M l0 29) ((120 * l1) + l2).toNatClampNeg) = (-2) → e_ob M l0 12 ∧ w_Mod_behind l0 l1 l2 M (fun (M1 : eM) => e_ob M1 l0 12 ∧ (¬ (gi M1 l0 33) = 0 → w_Mod_isWrong_46 M1 Q) ∧ ((gi M1 l0 33) = 0 → e_ob M1 l0 12 ∧ e_ob M1 l0 12 ∧ e_ai M1 (gr M1 l0 24) l1 ∧ ((gi M1 l0 32) ≤ (gi M1 (gr M1 l0 24) l1.toNatClampNeg) → e_ob M1 l0 12 ∧ e_ai M1 (gr M1 l0 29) ((120 * l1) + l2) ∧ e_ob M1 l0 12 ∧ w_Mod_byteAt l0 l1 l2 M1 (fun (v3 : Int32) (M2 : eM) => e_ob M2 l0 12 ∧ e_ai M2 (gr M2 l0 25) l1 ∧ ((gi M2 (gr M2 l0 25) l1.toNatClampNeg) ≤ (l2 + 1) → w_Mod_isWrong_96 l0 l1 l2 ((120 * l1) + l2) (((16 * ((120 * l1) + l2)) + 8) + (gi M1 (gr M1 l0 29) ((120 * l1) + l2).toNatClampNeg)) v3 0 M2 Q) ∧ (¬ (gi M2 (gr M2 l0 25) l1.toNatClampNeg) ≤ (l2 + 1) → e_ob M2 l0 12 ∧ w_Mod_byteAt l0 l1 (l2 + 1) M2 (fun (v5 : Int32) (M4 : eM) => w_Mod_isWrong_96 l0 l1 l2 ((120 * l1) + l2) (((16 * ((120 * l1) + l2)) + 8) + (gi M1 (gr M1 l0 29) ((120 * l1) + l2).toNatClampNeg)) v3 v5 M4 Q)))) ∧ (¬ (gi M1 l0 32) ≤ (gi M1 (gr M1 l0 24) l1.toNatClampNeg) → w_Mod_isWrong_46 M1 Q)))) ∧ ((gi M (gr M l0 29) ((120 * l1) + l2).toNatClampNeg) = (-2) → ((1 : Int32) = 0 ∨ (1 : Int32) = 1) ∧ Q (1 : Int32) M)
set_option maxRecDepth 100000 in
theorem b_Mod_isWrong {d : Nat} {l0 : Nat} {l1 : Int32} {l2 : Int32} {M : eM} {Q : Int32 → eM → Prop} (hd : 3 ≤ d) (h : w_Mod_isWrong l0 l1 l2 M Q) : e_CI 180 d 0 0 [.ref l0, .int l1, .int l2] M Q := by
  unfold w_Mod_isWrong at h
  show e_E 180 d 0 0 0 [(0, .ref l0), (1, .int l1), (2, .int l2)] [] M (e_QI Q)
  refine r_bipush (kd180 rfl) (y := 120) (by decide) rfl ?_
  refine r_iload_n (kd180 rfl) rfl rfl ?_
  refine r_imul (kd180 rfl) rfl ?_
  refine r_iload_n (kd180 rfl) rfl rfl ?_
  refine r_iadd (kd180 rfl) rfl ?_
  refine r_istore_n (kd180 rfl) L180 (by decide) rfl rfl ?_
  refine r_aload_n (kd180 rfl) rfl rfl ?_
  obtain ⟨g, h⟩ := h
  refine r_get2 (kd180 rfl) (by decide) rfl g rfl ?_
  refine r_iload_n (kd180 rfl) rfl rfl ?_
  obtain ⟨g, h⟩ := h
  refine r_iaload (kd180 rfl) g rfl ?_
  refine r_bipush (kd180 rfl) (y := (-2)) (by decide) rfl ?_
  refine r_icmp_ne (kd180 rfl) rfl (fun c => ?_) (fun c => ?_)
  · have h := h.1 c
    refine r_aload_n (kd180 rfl) rfl rfl ?_
    refine r_iload_n (kd180 rfl) rfl rfl ?_
    refine r_iload_n (kd180 rfl) rfl rfl ?_
    obtain ⟨g, h⟩ := h
    refine r_callVV (d' := d - 1) (by omega) (kd180 rfl) (by decide) rfl rfl rfl rfl (Nat.le_of_ble_eq_true rfl) rfl L177 (Nat.le_of_ble_eq_true rfl) (Nat.le_of_ble_eq_true rfl) g (Nat.zero_le _) (Nat.zero_le _) rfl rfl rfl (b_Mod_behind (by omega) h) (fun M1 h => ?_)
    refine r_aload_n (kd180 rfl) rfl rfl ?_
    obtain ⟨g, h⟩ := h
    refine r_get3 (kd180 rfl) (by decide) rfl g rfl ?_
    refine r_if_ne (kd180 rfl) rfl (fun c => ?_) (fun c => ?_)
    · have h := h.1 c
      exact (b_Mod_isWrong_46 hd h).less e_sn
    · have h := h.2 c
      refine r_aload_n (kd180 rfl) rfl rfl ?_
      obtain ⟨g, h⟩ := h
      refine r_get0 (kd180 rfl) (by decide) rfl g rfl ?_
      refine r_aload_n (kd180 rfl) rfl rfl ?_
      obtain ⟨g, h⟩ := h
      refine r_get2 (kd180 rfl) (by decide) rfl g rfl ?_
      refine r_iload_n (kd180 rfl) rfl rfl ?_
      obtain ⟨g, h⟩ := h
      refine r_iaload (kd180 rfl) g rfl ?_
      refine r_icmp_le (kd180 rfl) rfl (fun c => ?_) (fun c => ?_)
      · have h := h.1 c
        refine r_bipush (kd180 rfl) (y := 16) (by decide) rfl ?_
        refine r_iload_n (kd180 rfl) rfl rfl ?_
        refine r_imul (kd180 rfl) rfl ?_
        refine r_bipush (kd180 rfl) (y := 8) (by decide) rfl ?_
        refine r_iadd (kd180 rfl) rfl ?_
        refine r_aload_n (kd180 rfl) rfl rfl ?_
        obtain ⟨g, h⟩ := h
        refine r_get2 (kd180 rfl) (by decide) rfl g rfl ?_
        refine r_iload_n (kd180 rfl) rfl rfl ?_
        obtain ⟨g, h⟩ := h
        refine r_iaload (kd180 rfl) g rfl ?_
        refine r_iadd (kd180 rfl) rfl ?_
        refine r_istore (kd180 rfl) L180 (by decide) rfl rfl ?_
        refine r_aload_n (kd180 rfl) rfl rfl ?_
        refine r_iload_n (kd180 rfl) rfl rfl ?_
        refine r_iload_n (kd180 rfl) rfl rfl ?_
        obtain ⟨g, h⟩ := h
        refine r_callVI (d' := d - 1) (by omega) (kd180 rfl) (by decide) rfl rfl rfl rfl (Nat.le_of_ble_eq_true rfl) rfl L158 (Nat.le_of_ble_eq_true rfl) (Nat.le_of_ble_eq_true rfl) g (Nat.zero_le _) (Nat.zero_le _) rfl rfl rfl (b_Mod_byteAt (by omega) h) (fun x1 M1 h => ?_)
        refine r_istore (kd180 rfl) L180 (by decide) rfl rfl ?_
        refine r_aload_n (kd180 rfl) rfl rfl ?_
        obtain ⟨g, h⟩ := h
        refine r_get2 (kd180 rfl) (by decide) rfl g rfl ?_
        refine r_iload_n (kd180 rfl) rfl rfl ?_
        obtain ⟨g, h⟩ := h
        refine r_iaload (kd180 rfl) g rfl ?_
        refine r_iload_n (kd180 rfl) rfl rfl ?_
        refine r_iconst (kd180 rfl) (y := 1) (by decide) rfl ?_
        refine r_iadd (kd180 rfl) rfl ?_
        refine r_icmp_le (kd180 rfl) rfl (fun c => ?_) (fun c => ?_)
        · have h := h.1 c
          refine r_iconst (kd180 rfl) (y := 0) (by decide) rfl ?_
          exact (b_Mod_isWrong_96 hd h).less (e_sc (List.mem_of_getElem? (i := 3) rfl) (e_sc (List.mem_of_getElem? (i := 4) rfl) (e_sc (List.mem_of_getElem? (i := 5) rfl) (e_sc (List.mem_of_getElem? (i := 2) rfl) (e_sc (List.mem_of_getElem? (i := 1) rfl) (e_sc (List.mem_of_getElem? (i := 0) rfl) e_sn))))))
        · have h := h.2 c
          refine r_aload_n (kd180 rfl) rfl rfl ?_
          refine r_iload_n (kd180 rfl) rfl rfl ?_
          refine r_iload_n (kd180 rfl) rfl rfl ?_
          refine r_iconst (kd180 rfl) (y := 1) (by decide) rfl ?_
          refine r_iadd (kd180 rfl) rfl ?_
          obtain ⟨g, h⟩ := h
          refine r_callVI (d' := d - 1) (by omega) (kd180 rfl) (by decide) rfl rfl rfl rfl (Nat.le_of_ble_eq_true rfl) rfl L158 (Nat.le_of_ble_eq_true rfl) (Nat.le_of_ble_eq_true rfl) g (Nat.zero_le _) (Nat.zero_le _) rfl rfl rfl (b_Mod_byteAt (by omega) h) (fun x1 M1 h => ?_)
          refine r_goto (kd180 rfl) ?_
          exact (b_Mod_isWrong_96 hd h).less (e_sc (List.mem_of_getElem? (i := 3) rfl) (e_sc (List.mem_of_getElem? (i := 4) rfl) (e_sc (List.mem_of_getElem? (i := 5) rfl) (e_sc (List.mem_of_getElem? (i := 2) rfl) (e_sc (List.mem_of_getElem? (i := 1) rfl) (e_sc (List.mem_of_getElem? (i := 0) rfl) e_sn))))))
      · have h := h.2 c
        exact (b_Mod_isWrong_46 hd h).less e_sn
  · have h := h.2 c
    refine r_iconst (kd180 rfl) (y := 1) (by decide) rfl ?_
    exact r_zreturn (kd180 rfl) R180 h.1 h.2
/-- TierMillModel.isFine()Z -/
theorem kd164 {pc : Nat} {q : eI} (h : e_d164.lookup pc = some q) : e_dec 164 pc = some q := h
theorem L164 : (e_m 164).2.2.1 = 3 := rfl
theorem R164 : (e_m 164).2.2.2.1 = (some .boolean) := rfl
def w_Mod_isFine_92 (l0 : Nat) (l1 : Int32) (l2 : Int32) (M : eM) (Q : Int32 → eM → Prop) (k41 : Nat → Int32 → eM → Prop) (k51 : Nat → Int32 → Int32 → eM → Prop) : Prop := k51 l0 l1 (l2 + 1) M
theorem b_Mod_isFine_92 {d : Nat} {l0 : Nat} {l1 : Int32} {l2 : Int32} {M : eM} {Q : Int32 → eM → Prop} {k41 : Nat → Int32 → eM → Prop} {k51 : Nat → Int32 → Int32 → eM → Prop} (hd : 6 ≤ d) (hk41 : ∀ (l0 : Nat) (l1 : Int32) (M : eM), k41 l0 l1 M → e_E 164 d 0 0 41 [(0, .ref l0), (1, .int l1)] [] M (e_QI Q)) (hk51 : ∀ (l0 : Nat) (l1 : Int32) (l2 : Int32) (M : eM), k51 l0 l1 l2 M → e_E 164 d 0 0 51 [(0, .ref l0), (1, .int l1), (2, .int l2)] [] M (e_QI Q)) (h : w_Mod_isFine_92 l0 l1 l2 M Q k41 k51) : e_E 164 d 0 0 92 [(0, .ref l0), (1, .int l1), (2, .int l2)] [] M (e_QI Q) := by
  unfold w_Mod_isFine_92 at h
  refine r_iinc (kd164 rfl) rfl (y := 1) (by decide) L164 (by decide) rfl rfl ?_
  refine r_goto (kd164 rfl) ?_
  exact (hk51 _ _ _ _ h).less (e_sc (List.mem_of_getElem? (i := 1) rfl) (e_sc (List.mem_of_getElem? (i := 2) rfl) (e_sc (List.mem_of_getElem? (i := 0) rfl) e_sn)))
def w_Mod_isFine_51 : Nat → Nat → Int32 → Int32 → eM → (Int32 → eM → Prop) → (Nat → Int32 → eM → Prop) → Prop
  | 0, _, _, _, _, _, _ => False
  | n + 1, l0, l1, l2, M, Q, k41 => e_ob M l0 12 ∧ e_ai M (gr M l0 25) l1 ∧ ((gi M (gr M l0 25) l1.toNatClampNeg) ≤ l2 → k41 l0 (l1 + 1) M) ∧ (¬ (gi M (gr M l0 25) l1.toNatClampNeg) ≤ l2 → e_ob M l0 12 ∧ e_ar M (gr M l0 27) 22 ((120 * l1) + l2) ∧ ((gi M (gr M l0 27) ((120 * l1) + l2).toNatClampNeg) = 0 → w_Mod_isFine_92 l0 l1 l2 M Q k41 (fun l0 l1 l2 M => w_Mod_isFine_51 n l0 l1 l2 M Q k41)) ∧ (¬ (gi M (gr M l0 27) ((120 * l1) + l2).toNatClampNeg) = 0 → e_ob M l0 12 ∧ w_Mod_isGood l0 l1 l2 M (fun (v11 : Int32) (M10 : eM) => (¬ v11 = 0 → w_Mod_isFine_92 l0 l1 l2 M10 Q k41 (fun l0 l1 l2 M => w_Mod_isFine_51 n l0 l1 l2 M Q k41)) ∧ (v11 = 0 → e_ob M10 l0 12 ∧ w_Mod_findFault l0 2 l1 l2 M10 (fun (v13 : Int32) (M12 : eM) => (v13 = 0 ∨ v13 = 1) ∧ Q v13 M12)))))
theorem b_Mod_isFine_51 {d : Nat} {Q : Int32 → eM → Prop} {k41 : Nat → Int32 → eM → Prop} (hd : 6 ≤ d) (n : Nat) (hk41 : ∀ (l0 : Nat) (l1 : Int32) (M : eM), k41 l0 l1 M → e_E 164 d 0 0 41 [(0, .ref l0), (1, .int l1)] [] M (e_QI Q)) : ∀ (l0 : Nat) (l1 : Int32) (l2 : Int32) (M : eM), w_Mod_isFine_51 n l0 l1 l2 M Q k41 → e_E 164 d 0 0 51 [(0, .ref l0), (1, .int l1), (2, .int l2)] [] M (e_QI Q) := by
  induction n with
  | zero => intro l0 l1 l2 M h; exact False.elim h
  | succ n ih =>
    intro l0 l1 l2 M h
    have hk51 := ih
    refine r_iload_n (kd164 rfl) rfl rfl ?_
    refine r_aload_n (kd164 rfl) rfl rfl ?_
    obtain ⟨g, h⟩ := h
    refine r_get2 (kd164 rfl) (by decide) rfl g rfl ?_
    refine r_iload_n (kd164 rfl) rfl rfl ?_
    obtain ⟨g, h⟩ := h
    refine r_iaload (kd164 rfl) g rfl ?_
    refine r_icmp_ge (kd164 rfl) rfl (fun c => ?_) (fun c => ?_)
    · have h := h.1 c
      refine r_iinc (kd164 rfl) rfl (y := 1) (by decide) L164 (by decide) rfl rfl ?_
      refine r_goto (kd164 rfl) ?_
      exact (hk41 _ _ _ h).less (e_sc (List.mem_of_getElem? (i := 1) rfl) (e_sc (List.mem_of_getElem? (i := 0) rfl) e_sn))
    · have h := h.2 c
      refine r_aload_n (kd164 rfl) rfl rfl ?_
      obtain ⟨g, h⟩ := h
      refine r_get2 (kd164 rfl) (by decide) rfl g rfl ?_
      refine r_bipush (kd164 rfl) (y := 120) (by decide) rfl ?_
      refine r_iload_n (kd164 rfl) rfl rfl ?_
      refine r_imul (kd164 rfl) rfl ?_
      refine r_iload_n (kd164 rfl) rfl rfl ?_
      refine r_iadd (kd164 rfl) rfl ?_
      obtain ⟨g, h⟩ := h
      refine r_baload (kd164 rfl) g rfl ?_
      refine r_if_eq (kd164 rfl) rfl (fun c => ?_) (fun c => ?_)
      · have h := h.1 c
        exact (b_Mod_isFine_92 hd hk41 hk51 h).less (e_sc (List.mem_of_getElem? (i := 0) rfl) (e_sc (List.mem_of_getElem? (i := 1) rfl) (e_sc (List.mem_of_getElem? (i := 2) rfl) e_sn)))
      · have h := h.2 c
        refine r_aload_n (kd164 rfl) rfl rfl ?_
        refine r_iload_n (kd164 rfl) rfl rfl ?_
        refine r_iload_n (kd164 rfl) rfl rfl ?_
        obtain ⟨g, h⟩ := h
        refine r_callVI (d' := d - 1) (by omega) (kd164 rfl) (by decide) rfl rfl rfl rfl (Nat.le_of_ble_eq_true rfl) rfl L162 (Nat.le_of_ble_eq_true rfl) (Nat.le_of_ble_eq_true rfl) g (Nat.zero_le _) (Nat.zero_le _) rfl rfl rfl (b_Mod_isGood (by omega) h) (fun x1 M1 h => ?_)
        refine r_if_ne (kd164 rfl) rfl (fun c => ?_) (fun c => ?_)
        · have h := h.1 c
          exact (b_Mod_isFine_92 hd hk41 hk51 h).less (e_sc (List.mem_of_getElem? (i := 0) rfl) (e_sc (List.mem_of_getElem? (i := 1) rfl) (e_sc (List.mem_of_getElem? (i := 2) rfl) e_sn)))
        · have h := h.2 c
          refine r_aload_n (kd164 rfl) rfl rfl ?_
          refine r_iconst (kd164 rfl) (y := 2) (by decide) rfl ?_
          refine r_iload_n (kd164 rfl) rfl rfl ?_
          refine r_iload_n (kd164 rfl) rfl rfl ?_
          obtain ⟨g, h⟩ := h
          refine r_callVI (d' := d - 1) (by omega) (kd164 rfl) (by decide) rfl rfl rfl rfl (Nat.le_of_ble_eq_true rfl) rfl L163 (Nat.le_of_ble_eq_true rfl) (Nat.le_of_ble_eq_true rfl) g (Nat.zero_le _) (Nat.zero_le _) rfl rfl rfl (b_Mod_findFault (by omega) h) (fun x1 M1 h => ?_)
          exact r_zreturn (kd164 rfl) R164 h.1 h.2
def w_Mod_isFine_163 (l0 : Nat) (l1 : Int32) (l2 : Int32) (M : eM) (Q : Int32 → eM → Prop) (k106 : Nat → Int32 → eM → Prop) (k121 : Nat → Int32 → Int32 → eM → Prop) : Prop := k121 l0 l1 (l2 + 1) M
theorem b_Mod_isFine_163 {d : Nat} {l0 : Nat} {l1 : Int32} {l2 : Int32} {M : eM} {Q : Int32 → eM → Prop} {k106 : Nat → Int32 → eM → Prop} {k121 : Nat → Int32 → Int32 → eM → Prop} (hd : 6 ≤ d) (hk106 : ∀ (l0 : Nat) (l1 : Int32) (M : eM), k106 l0 l1 M → e_E 164 d 0 0 106 [(0, .ref l0), (1, .int l1)] [] M (e_QI Q)) (hk121 : ∀ (l0 : Nat) (l1 : Int32) (l2 : Int32) (M : eM), k121 l0 l1 l2 M → e_E 164 d 0 0 121 [(0, .ref l0), (1, .int l1), (2, .int l2)] [] M (e_QI Q)) (h : w_Mod_isFine_163 l0 l1 l2 M Q k106 k121) : e_E 164 d 0 0 163 [(0, .ref l0), (1, .int l1), (2, .int l2)] [] M (e_QI Q) := by
  unfold w_Mod_isFine_163 at h
  refine r_iinc (kd164 rfl) rfl (y := 1) (by decide) L164 (by decide) rfl rfl ?_
  refine r_goto (kd164 rfl) ?_
  exact (hk121 _ _ _ _ h).less (e_sc (List.mem_of_getElem? (i := 1) rfl) (e_sc (List.mem_of_getElem? (i := 2) rfl) (e_sc (List.mem_of_getElem? (i := 0) rfl) e_sn)))
def w_Mod_isFine_121 : Nat → Nat → Int32 → Int32 → eM → (Int32 → eM → Prop) → (Nat → Int32 → eM → Prop) → Prop
  | 0, _, _, _, _, _, _ => False
  | n + 1, l0, l1, l2, M, Q, k106 => e_ob M l0 12 ∧ e_ai M (gr M l0 25) l1 ∧ ((gi M (gr M l0 25) l1.toNatClampNeg) ≤ l2 → k106 l0 (l1 + 1) M) ∧ (¬ (gi M (gr M l0 25) l1.toNatClampNeg) ≤ l2 → e_ob M l0 12 ∧ e_ai M (gr M l0 29) ((120 * l1) + l2) ∧ ((gi M (gr M l0 29) ((120 * l1) + l2).toNatClampNeg) = (-1) → w_Mod_isFine_163 l0 l1 l2 M Q k106 (fun l0 l1 l2 M => w_Mod_isFine_121 n l0 l1 l2 M Q k106)) ∧ (¬ (gi M (gr M l0 29) ((120 * l1) + l2).toNatClampNeg) = (-1) → e_ob M l0 12 ∧ w_Mod_isWrong l0 l1 l2 M (fun (v17 : Int32) (M16 : eM) => (v17 = 0 → w_Mod_isFine_163 l0 l1 l2 M16 Q k106 (fun l0 l1 l2 M => w_Mod_isFine_121 n l0 l1 l2 M Q k106)) ∧ (¬ v17 = 0 → e_ob M16 l0 12 ∧ w_Mod_findFault l0 3 l1 l2 M16 (fun (v19 : Int32) (M18 : eM) => (v19 = 0 ∨ v19 = 1) ∧ Q v19 M18)))))
theorem b_Mod_isFine_121 {d : Nat} {Q : Int32 → eM → Prop} {k106 : Nat → Int32 → eM → Prop} (hd : 6 ≤ d) (n : Nat) (hk106 : ∀ (l0 : Nat) (l1 : Int32) (M : eM), k106 l0 l1 M → e_E 164 d 0 0 106 [(0, .ref l0), (1, .int l1)] [] M (e_QI Q)) : ∀ (l0 : Nat) (l1 : Int32) (l2 : Int32) (M : eM), w_Mod_isFine_121 n l0 l1 l2 M Q k106 → e_E 164 d 0 0 121 [(0, .ref l0), (1, .int l1), (2, .int l2)] [] M (e_QI Q) := by
  induction n with
  | zero => intro l0 l1 l2 M h; exact False.elim h
  | succ n ih =>
    intro l0 l1 l2 M h
    have hk121 := ih
    refine r_iload_n (kd164 rfl) rfl rfl ?_
    refine r_aload_n (kd164 rfl) rfl rfl ?_
    obtain ⟨g, h⟩ := h
    refine r_get2 (kd164 rfl) (by decide) rfl g rfl ?_
    refine r_iload_n (kd164 rfl) rfl rfl ?_
    obtain ⟨g, h⟩ := h
    refine r_iaload (kd164 rfl) g rfl ?_
    refine r_icmp_ge (kd164 rfl) rfl (fun c => ?_) (fun c => ?_)
    · have h := h.1 c
      refine r_iinc (kd164 rfl) rfl (y := 1) (by decide) L164 (by decide) rfl rfl ?_
      refine r_goto (kd164 rfl) ?_
      exact (hk106 _ _ _ h).less (e_sc (List.mem_of_getElem? (i := 1) rfl) (e_sc (List.mem_of_getElem? (i := 0) rfl) e_sn))
    · have h := h.2 c
      refine r_aload_n (kd164 rfl) rfl rfl ?_
      obtain ⟨g, h⟩ := h
      refine r_get2 (kd164 rfl) (by decide) rfl g rfl ?_
      refine r_bipush (kd164 rfl) (y := 120) (by decide) rfl ?_
      refine r_iload_n (kd164 rfl) rfl rfl ?_
      refine r_imul (kd164 rfl) rfl ?_
      refine r_iload_n (kd164 rfl) rfl rfl ?_
      refine r_iadd (kd164 rfl) rfl ?_
      obtain ⟨g, h⟩ := h
      refine r_iaload (kd164 rfl) g rfl ?_
      refine r_iconst (kd164 rfl) (y := (-1)) (by decide) rfl ?_
      refine r_icmp_eq (kd164 rfl) rfl (fun c => ?_) (fun c => ?_)
      · have h := h.1 c
        exact (b_Mod_isFine_163 hd hk106 hk121 h).less (e_sc (List.mem_of_getElem? (i := 0) rfl) (e_sc (List.mem_of_getElem? (i := 1) rfl) (e_sc (List.mem_of_getElem? (i := 2) rfl) e_sn)))
      · have h := h.2 c
        refine r_aload_n (kd164 rfl) rfl rfl ?_
        refine r_iload_n (kd164 rfl) rfl rfl ?_
        refine r_iload_n (kd164 rfl) rfl rfl ?_
        obtain ⟨g, h⟩ := h
        refine r_callVI (d' := d - 1) (by omega) (kd164 rfl) (by decide) rfl rfl rfl rfl (Nat.le_of_ble_eq_true rfl) rfl L180 (Nat.le_of_ble_eq_true rfl) (Nat.le_of_ble_eq_true rfl) g (Nat.zero_le _) (Nat.zero_le _) rfl rfl rfl (b_Mod_isWrong (by omega) h) (fun x1 M1 h => ?_)
        refine r_if_eq (kd164 rfl) rfl (fun c => ?_) (fun c => ?_)
        · have h := h.1 c
          exact (b_Mod_isFine_163 hd hk106 hk121 h).less (e_sc (List.mem_of_getElem? (i := 0) rfl) (e_sc (List.mem_of_getElem? (i := 1) rfl) (e_sc (List.mem_of_getElem? (i := 2) rfl) e_sn)))
        · have h := h.2 c
          refine r_aload_n (kd164 rfl) rfl rfl ?_
          refine r_iconst (kd164 rfl) (y := 3) (by decide) rfl ?_
          refine r_iload_n (kd164 rfl) rfl rfl ?_
          refine r_iload_n (kd164 rfl) rfl rfl ?_
          obtain ⟨g, h⟩ := h
          refine r_callVI (d' := d - 1) (by omega) (kd164 rfl) (by decide) rfl rfl rfl rfl (Nat.le_of_ble_eq_true rfl) rfl L163 (Nat.le_of_ble_eq_true rfl) (Nat.le_of_ble_eq_true rfl) g (Nat.zero_le _) (Nat.zero_le _) rfl rfl rfl (b_Mod_findFault (by omega) h) (fun x1 M1 h => ?_)
          exact r_zreturn (kd164 rfl) R164 h.1 h.2
def w_Mod_isFine_106 : Nat → Nat → Int32 → eM → (Int32 → eM → Prop) → Prop
  | 0, _, _, _, _ => False
  | n + 1, l0, l1, M, Q => e_ob M l0 12 ∧ ((gi M l0 19) ≤ l1 → ((1 : Int32) = 0 ∨ (1 : Int32) = 1) ∧ Q (1 : Int32) M) ∧ (¬ (gi M l0 19) ≤ l1 → e_ob M l0 12 ∧ w_Mod_flow l0 l1 M (fun (M14 : eM) => ∃ n15 : Nat, w_Mod_isFine_121 n15 l0 l1 0 M14 Q (fun l0 l1 M => w_Mod_isFine_106 n l0 l1 M Q )))
theorem b_Mod_isFine_106 {d : Nat} {Q : Int32 → eM → Prop} (hd : 6 ≤ d) (n : Nat) : ∀ (l0 : Nat) (l1 : Int32) (M : eM), w_Mod_isFine_106 n l0 l1 M Q → e_E 164 d 0 0 106 [(0, .ref l0), (1, .int l1)] [] M (e_QI Q) := by
  induction n with
  | zero => intro l0 l1 M h; exact False.elim h
  | succ n ih =>
    intro l0 l1 M h
    have hk106 := ih
    refine r_iload_n (kd164 rfl) rfl rfl ?_
    refine r_aload_n (kd164 rfl) rfl rfl ?_
    obtain ⟨g, h⟩ := h
    refine r_get0 (kd164 rfl) (by decide) rfl g rfl ?_
    refine r_icmp_ge (kd164 rfl) rfl (fun c => ?_) (fun c => ?_)
    · have h := h.1 c
      refine r_iconst (kd164 rfl) (y := 1) (by decide) rfl ?_
      exact r_zreturn (kd164 rfl) R164 h.1 h.2
    · have h := h.2 c
      refine r_aload_n (kd164 rfl) rfl rfl ?_
      refine r_iload_n (kd164 rfl) rfl rfl ?_
      obtain ⟨g, h⟩ := h
      refine r_callVV (d' := d - 1) (by omega) (kd164 rfl) (by decide) rfl rfl rfl rfl (Nat.le_of_ble_eq_true rfl) rfl L171 (Nat.le_of_ble_eq_true rfl) (Nat.le_of_ble_eq_true rfl) g (Nat.zero_le _) (Nat.zero_le _) rfl rfl rfl (b_Mod_flow (by omega) h) (fun M1 h => ?_)
      refine r_iconst (kd164 rfl) (y := 0) (by decide) rfl ?_
      refine r_istore_n (kd164 rfl) L164 (by decide) rfl rfl ?_
      obtain ⟨n, h⟩ := h
      exact (b_Mod_isFine_121 hd n hk106 _ _ _ _ h).less (e_sc (List.mem_of_getElem? (i := 1) rfl) (e_sc (List.mem_of_getElem? (i := 2) rfl) (e_sc (List.mem_of_getElem? (i := 0) rfl) e_sn)))
def w_Mod_isFine_41 : Nat → Nat → Int32 → eM → (Int32 → eM → Prop) → Prop
  | 0, _, _, _, _ => False
  | n + 1, l0, l1, M, Q => e_ob M l0 12 ∧ ((gi M l0 19) ≤ l1 → ∃ n8 : Nat, w_Mod_isFine_106 n8 l0 0 M Q) ∧ (¬ (gi M l0 19) ≤ l1 → ∃ n9 : Nat, w_Mod_isFine_51 n9 l0 l1 0 M Q (fun l0 l1 M => w_Mod_isFine_41 n l0 l1 M Q ))
theorem b_Mod_isFine_41 {d : Nat} {Q : Int32 → eM → Prop} (hd : 6 ≤ d) (n : Nat) : ∀ (l0 : Nat) (l1 : Int32) (M : eM), w_Mod_isFine_41 n l0 l1 M Q → e_E 164 d 0 0 41 [(0, .ref l0), (1, .int l1)] [] M (e_QI Q) := by
  induction n with
  | zero => intro l0 l1 M h; exact False.elim h
  | succ n ih =>
    intro l0 l1 M h
    have hk41 := ih
    refine r_iload_n (kd164 rfl) rfl rfl ?_
    refine r_aload_n (kd164 rfl) rfl rfl ?_
    obtain ⟨g, h⟩ := h
    refine r_get0 (kd164 rfl) (by decide) rfl g rfl ?_
    refine r_icmp_ge (kd164 rfl) rfl (fun c => ?_) (fun c => ?_)
    · have h := h.1 c
      refine r_iconst (kd164 rfl) (y := 0) (by decide) rfl ?_
      refine r_istore_n (kd164 rfl) L164 (by decide) rfl rfl ?_
      obtain ⟨n, h⟩ := h
      exact (b_Mod_isFine_106 hd n _ _ _ h).less (e_sc (List.mem_of_getElem? (i := 1) rfl) (e_sc (List.mem_of_getElem? (i := 0) rfl) e_sn))
    · have h := h.2 c
      refine r_iconst (kd164 rfl) (y := 0) (by decide) rfl ?_
      refine r_istore_n (kd164 rfl) L164 (by decide) rfl rfl ?_
      obtain ⟨n, h⟩ := h
      exact (b_Mod_isFine_51 hd n hk41 _ _ _ _ h).less (e_sc (List.mem_of_getElem? (i := 1) rfl) (e_sc (List.mem_of_getElem? (i := 2) rfl) (e_sc (List.mem_of_getElem? (i := 0) rfl) e_sn)))
def w_Mod_isFine_20 : Nat → Nat → Int32 → eM → (Int32 → eM → Prop) → Prop
  | 0, _, _, _, _ => False
  | n + 1, l0, l1, M, Q => e_ob M l0 12 ∧ ((gi M l0 19) ≤ l1 → ∃ n6 : Nat, w_Mod_isFine_41 n6 l0 0 M Q) ∧ (¬ (gi M l0 19) ≤ l1 → e_ob M l0 12 ∧ w_Mod_findBegins l0 l1 M (fun (M7 : eM) => (fun l0 l1 M => w_Mod_isFine_20 n l0 l1 M Q ) l0 (l1 + 1) M7))
theorem b_Mod_isFine_20 {d : Nat} {Q : Int32 → eM → Prop} (hd : 6 ≤ d) (n : Nat) : ∀ (l0 : Nat) (l1 : Int32) (M : eM), w_Mod_isFine_20 n l0 l1 M Q → e_E 164 d 0 0 20 [(0, .ref l0), (1, .int l1)] [] M (e_QI Q) := by
  induction n with
  | zero => intro l0 l1 M h; exact False.elim h
  | succ n ih =>
    intro l0 l1 M h
    have hk20 := ih
    refine r_iload_n (kd164 rfl) rfl rfl ?_
    refine r_aload_n (kd164 rfl) rfl rfl ?_
    obtain ⟨g, h⟩ := h
    refine r_get0 (kd164 rfl) (by decide) rfl g rfl ?_
    refine r_icmp_ge (kd164 rfl) rfl (fun c => ?_) (fun c => ?_)
    · have h := h.1 c
      refine r_iconst (kd164 rfl) (y := 0) (by decide) rfl ?_
      refine r_istore_n (kd164 rfl) L164 (by decide) rfl rfl ?_
      obtain ⟨n, h⟩ := h
      exact (b_Mod_isFine_41 hd n _ _ _ h).less (e_sc (List.mem_of_getElem? (i := 1) rfl) (e_sc (List.mem_of_getElem? (i := 0) rfl) e_sn))
    · have h := h.2 c
      refine r_aload_n (kd164 rfl) rfl rfl ?_
      refine r_iload_n (kd164 rfl) rfl rfl ?_
      obtain ⟨g, h⟩ := h
      refine r_callVV (d' := d - 1) (by omega) (kd164 rfl) (by decide) rfl rfl rfl rfl (Nat.le_of_ble_eq_true rfl) rfl L160 (Nat.le_of_ble_eq_true rfl) (Nat.le_of_ble_eq_true rfl) g (Nat.zero_le _) (Nat.zero_le _) rfl rfl rfl (b_Mod_findBegins (by omega) h) (fun M1 h => ?_)
      refine r_iinc (kd164 rfl) rfl (y := 1) (by decide) L164 (by decide) rfl rfl ?_
      refine r_goto (kd164 rfl) ?_
      exact (hk20 _ _ _ h).less (e_sc (List.mem_of_getElem? (i := 1) rfl) (e_sc (List.mem_of_getElem? (i := 0) rfl) e_sn))
def w_Mod_isFine (l0 : Nat) (M : eM) (Q : Int32 → eM → Prop) : Prop := e_ob M l0 12 ∧ w_Mod_takeApart l0 M (fun (v2 : Int32) (M1 : eM) => (¬ v2 = 0 → ∃ n3 : Nat, w_Mod_isFine_20 n3 l0 0 M1 Q) ∧ (v2 = 0 → e_ob M1 l0 12 ∧ e_ob M1 l0 12 ∧ w_Mod_findFault l0 1 0 (gi M1 l0 81) M1 (fun (v5 : Int32) (M4 : eM) => (v5 = 0 ∨ v5 = 1) ∧ Q v5 M4)))
theorem b_Mod_isFine {d : Nat} {l0 : Nat} {M : eM} {Q : Int32 → eM → Prop} (hd : 6 ≤ d) (h : w_Mod_isFine l0 M Q) : e_CI 164 d 0 0 [.ref l0] M Q := by
  unfold w_Mod_isFine at h
  show e_E 164 d 0 0 0 [(0, .ref l0)] [] M (e_QI Q)
  refine r_aload_n (kd164 rfl) rfl rfl ?_
  obtain ⟨g, h⟩ := h
  refine r_callVI (d' := d - 1) (by omega) (kd164 rfl) (by decide) rfl rfl rfl rfl (Nat.le_of_ble_eq_true rfl) rfl L156 (Nat.le_of_ble_eq_true rfl) (Nat.le_of_ble_eq_true rfl) g (Nat.zero_le _) (Nat.zero_le _) rfl rfl rfl (b_Mod_takeApart (by omega) h) (fun x1 M1 h => ?_)
  refine r_if_ne (kd164 rfl) rfl (fun c => ?_) (fun c => ?_)
  · have h := h.1 c
    refine r_iconst (kd164 rfl) (y := 0) (by decide) rfl ?_
    refine r_istore_n (kd164 rfl) L164 (by decide) rfl rfl ?_
    obtain ⟨n, h⟩ := h
    exact (b_Mod_isFine_20 hd n _ _ _ h).less (e_sc (List.mem_of_getElem? (i := 1) rfl) (e_sc (List.mem_of_getElem? (i := 0) rfl) e_sn))
  · have h := h.2 c
    refine r_aload_n (kd164 rfl) rfl rfl ?_
    refine r_iconst (kd164 rfl) (y := 1) (by decide) rfl ?_
    refine r_iconst (kd164 rfl) (y := 0) (by decide) rfl ?_
    refine r_aload_n (kd164 rfl) rfl rfl ?_
    obtain ⟨g, h⟩ := h
    refine r_get0 (kd164 rfl) (by decide) rfl g rfl ?_
    obtain ⟨g, h⟩ := h
    refine r_callVI (d' := d - 1) (by omega) (kd164 rfl) (by decide) rfl rfl rfl rfl (Nat.le_of_ble_eq_true rfl) rfl L163 (Nat.le_of_ble_eq_true rfl) (Nat.le_of_ble_eq_true rfl) g (Nat.zero_le _) (Nat.zero_le _) rfl rfl rfl (b_Mod_findFault (by omega) h) (fun x1 M1 h => ?_)
    exact r_zreturn (kd164 rfl) R164 h.1 h.2
/-- TierMillModel.again()V -/
theorem kd166 {pc : Nat} {q : eI} (h : e_d166.lookup pc = some q) : e_dec 166 pc = some q := h
theorem L166 : (e_m 166).2.2.1 = 5 := rfl
theorem R166 : (e_m 166).2.2.2.1 = none := rfl
def w_Mod_again_26 : Nat → Nat → Int32 → Int32 → Int32 → Int32 → eM → (eM → Prop) → Prop
  | 0, _, _, _, _, _, _, _ => False
  | n + 1, l0, l1, l2, l3, l4, M, Q => e_ob M l0 12 ∧ ((gi M l0 6) ≤ l4 → e_ob M l0 12 ∧ w_Mod_isFine l0 M (fun (v4 : Int32) (M3 : eM) => e_ob M3 l0 12 ∧ ∀ M5 : eM, M5 = e_si M3 l0 8 l1 → e_ob M5 l0 12 ∧ ∀ M6 : eM, M6 = e_si M5 l0 10 l2 → e_ob M6 l0 12 ∧ ∀ M7 : eM, M7 = e_si M6 l0 9 l3 → Q M7)) ∧ (¬ (gi M l0 6) ≤ l4 → e_ob M l0 12 ∧ e_ob M l0 12 ∧ e_ai M (gr M l0 5) l4 ∧ e_ar M (gr M l0 3) 20 l4 ∧ ∀ M8 : eM, M8 = e_si M (gr M l0 3) l4.toNatClampNeg (gi M (gr M l0 5) l4.toNatClampNeg) → (fun l0 l1 l2 l3 l4 M => w_Mod_again_26 n l0 l1 l2 l3 l4 M Q ) l0 l1 l2 l3 (l4 + 1) M8)
theorem b_Mod_again_26 {d : Nat} {Q : eM → Prop} (hd : 7 ≤ d) (n : Nat) : ∀ (l0 : Nat) (l1 : Int32) (l2 : Int32) (l3 : Int32) (l4 : Int32) (M : eM), w_Mod_again_26 n l0 l1 l2 l3 l4 M Q → e_E 166 d 0 0 26 [(0, .ref l0), (1, .int l1), (2, .int l2), (3, .int l3), (4, .int l4)] [] M (e_QV Q) := by
  induction n with
  | zero => intro l0 l1 l2 l3 l4 M h; exact False.elim h
  | succ n ih =>
    intro l0 l1 l2 l3 l4 M h
    have hk26 := ih
    refine r_iload (kd166 rfl) rfl rfl ?_
    refine r_aload_n (kd166 rfl) rfl rfl ?_
    obtain ⟨g, h⟩ := h
    refine r_get0 (kd166 rfl) (by decide) rfl g rfl ?_
    refine r_icmp_ge (kd166 rfl) rfl (fun c => ?_) (fun c => ?_)
    · have h := h.1 c
      refine r_aload_n (kd166 rfl) rfl rfl ?_
      obtain ⟨g, h⟩ := h
      refine r_callVI (d' := d - 1) (by omega) (kd166 rfl) (by decide) rfl rfl rfl rfl (Nat.le_of_ble_eq_true rfl) rfl L164 (Nat.le_of_ble_eq_true rfl) (Nat.le_of_ble_eq_true rfl) g (Nat.zero_le _) (Nat.zero_le _) rfl rfl rfl (b_Mod_isFine (by omega) h) (fun x1 M1 h => ?_)
      refine r_istore (kd166 rfl) L166 (by decide) rfl rfl ?_
      refine r_aload_n (kd166 rfl) rfl rfl ?_
      refine r_iload_n (kd166 rfl) rfl rfl ?_
      obtain ⟨g, h⟩ := h
      have h := h _ rfl
      refine r_put0 (kd166 rfl) (by decide) rfl g rfl ?_
      refine r_aload_n (kd166 rfl) rfl rfl ?_
      refine r_iload_n (kd166 rfl) rfl rfl ?_
      obtain ⟨g, h⟩ := h
      have h := h _ rfl
      refine r_put0 (kd166 rfl) (by decide) rfl g rfl ?_
      refine r_aload_n (kd166 rfl) rfl rfl ?_
      refine r_iload_n (kd166 rfl) rfl rfl ?_
      obtain ⟨g, h⟩ := h
      have h := h _ rfl
      refine r_put0 (kd166 rfl) (by decide) rfl g rfl ?_
      exact r_return (kd166 rfl) R166 h
    · have h := h.2 c
      refine r_aload_n (kd166 rfl) rfl rfl ?_
      obtain ⟨g, h⟩ := h
      refine r_get2 (kd166 rfl) (by decide) rfl g rfl ?_
      refine r_iload (kd166 rfl) rfl rfl ?_
      refine r_aload_n (kd166 rfl) rfl rfl ?_
      obtain ⟨g, h⟩ := h
      refine r_get2 (kd166 rfl) (by decide) rfl g rfl ?_
      refine r_iload (kd166 rfl) rfl rfl ?_
      obtain ⟨g, h⟩ := h
      refine r_iaload (kd166 rfl) g rfl ?_
      obtain ⟨g, h⟩ := h
      have h := h _ rfl
      refine r_iastore (kd166 rfl) g rfl ?_
      refine r_iinc (kd166 rfl) rfl (y := 1) (by decide) L166 (by decide) rfl rfl ?_
      refine r_goto (kd166 rfl) ?_
      exact (hk26 _ _ _ _ _ _ h).less (e_sc (List.mem_of_getElem? (i := 1) rfl) (e_sc (List.mem_of_getElem? (i := 2) rfl) (e_sc (List.mem_of_getElem? (i := 3) rfl) (e_sc (List.mem_of_getElem? (i := 4) rfl) (e_sc (List.mem_of_getElem? (i := 0) rfl) e_sn)))))
def w_Mod_again (l0 : Nat) (M : eM) (Q : eM → Prop) : Prop := e_ob M l0 12 ∧ e_ob M l0 12 ∧ e_ob M l0 12 ∧ e_ob M l0 12 ∧ e_ob M l0 12 ∧ ∀ M1 : eM, M1 = e_si M l0 4 (gi M l0 6) → ∃ n2 : Nat, w_Mod_again_26 n2 l0 (gi M l0 8) (gi M l0 10) (gi M l0 9) 0 M1 Q
theorem b_Mod_again {d : Nat} {l0 : Nat} {M : eM} {Q : eM → Prop} (hd : 7 ≤ d) (h : w_Mod_again l0 M Q) : e_CV 166 d 0 0 [.ref l0] M Q := by
  unfold w_Mod_again at h
  show e_E 166 d 0 0 0 [(0, .ref l0)] [] M (e_QV Q)
  refine r_aload_n (kd166 rfl) rfl rfl ?_
  obtain ⟨g, h⟩ := h
  refine r_get0 (kd166 rfl) (by decide) rfl g rfl ?_
  refine r_istore_n (kd166 rfl) L166 (by decide) rfl rfl ?_
  refine r_aload_n (kd166 rfl) rfl rfl ?_
  obtain ⟨g, h⟩ := h
  refine r_get0 (kd166 rfl) (by decide) rfl g rfl ?_
  refine r_istore_n (kd166 rfl) L166 (by decide) rfl rfl ?_
  refine r_aload_n (kd166 rfl) rfl rfl ?_
  obtain ⟨g, h⟩ := h
  refine r_get0 (kd166 rfl) (by decide) rfl g rfl ?_
  refine r_istore_n (kd166 rfl) L166 (by decide) rfl rfl ?_
  refine r_aload_n (kd166 rfl) rfl rfl ?_
  refine r_aload_n (kd166 rfl) rfl rfl ?_
  obtain ⟨g, h⟩ := h
  refine r_get0 (kd166 rfl) (by decide) rfl g rfl ?_
  obtain ⟨g, h⟩ := h
  have h := h _ rfl
  refine r_put0 (kd166 rfl) (by decide) rfl g rfl ?_
  refine r_iconst (kd166 rfl) (y := 0) (by decide) rfl ?_
  refine r_istore (kd166 rfl) L166 (by decide) rfl rfl ?_
  obtain ⟨n, h⟩ := h
  exact (b_Mod_again_26 hd n _ _ _ _ _ _ h).less (e_sc (List.mem_of_getElem? (i := 4) rfl) (e_sc (List.mem_of_getElem? (i := 3) rfl) (e_sc (List.mem_of_getElem? (i := 2) rfl) (e_sc (List.mem_of_getElem? (i := 1) rfl) (e_sc (List.mem_of_getElem? (i := 0) rfl) e_sn)))))
/-- TierMillModel.load()I -/
theorem kd165 {pc : Nat} {q : eI} (h : e_d165.lookup pc = some q) : e_dec 165 pc = some q := h
theorem L165 : (e_m 165).2.2.1 = 3 := rfl
theorem R165 : (e_m 165).2.2.2.1 = (some .int) := rfl
def w_Mod_load_67 : Nat → Nat → Int32 → eM → (Int32 → eM → Prop) → Prop
  | 0, _, _, _, _ => False
  | n + 1, l0, l2, M, Q => e_ob M l0 12 ∧ ((gi M l0 4) ≤ l2 → e_ob M l0 12 ∧ e_ob M l0 12 ∧ ∀ M12 : eM, M12 = e_si M l0 6 (gi M l0 4) → e_ob M12 l0 12 ∧ ((1 : Int32) = 0 ∨ (1 : Int32) = 1) ∧ ∀ M13 : eM, M13 = e_si M12 l0 7 (1 : Int32) → e_ob M13 l0 12 ∧ ∀ M14 : eM, M14 = e_si M13 l0 41 0 → e_ob M14 l0 12 ∧ ∀ M15 : eM, M15 = e_si M14 l0 0 0 → e_ob M15 l0 12 ∧ Q (gi M15 l0 19) M15) ∧ (¬ (gi M l0 4) ≤ l2 → e_ob M l0 12 ∧ e_ob M l0 12 ∧ e_ai M (gr M l0 3) l2 ∧ e_ar M (gr M l0 5) 20 l2 ∧ ∀ M16 : eM, M16 = e_si M (gr M l0 5) l2.toNatClampNeg (gi M (gr M l0 3) l2.toNatClampNeg) → (fun l0 l2 M => w_Mod_load_67 n l0 l2 M Q ) l0 (l2 + 1) M16)
theorem b_Mod_load_67 {d : Nat} {Q : Int32 → eM → Prop} (hd : 8 ≤ d) (n : Nat) : ∀ (l0 : Nat) (l2 : Int32) (M : eM), w_Mod_load_67 n l0 l2 M Q → e_E 165 d 0 0 67 [(0, .ref l0), (2, .int l2)] [] M (e_QI Q) := by
  induction n with
  | zero => intro l0 l2 M h; exact False.elim h
  | succ n ih =>
    intro l0 l2 M h
    have hk67 := ih
    refine r_iload_n (kd165 rfl) rfl rfl ?_
    refine r_aload_n (kd165 rfl) rfl rfl ?_
    obtain ⟨g, h⟩ := h
    refine r_get0 (kd165 rfl) (by decide) rfl g rfl ?_
    refine r_icmp_ge (kd165 rfl) rfl (fun c => ?_) (fun c => ?_)
    · have h := h.1 c
      refine r_aload_n (kd165 rfl) rfl rfl ?_
      refine r_aload_n (kd165 rfl) rfl rfl ?_
      obtain ⟨g, h⟩ := h
      refine r_get0 (kd165 rfl) (by decide) rfl g rfl ?_
      obtain ⟨g, h⟩ := h
      have h := h _ rfl
      refine r_put0 (kd165 rfl) (by decide) rfl g rfl ?_
      refine r_aload_n (kd165 rfl) rfl rfl ?_
      refine r_iconst (kd165 rfl) (y := 1) (by decide) rfl ?_
      obtain ⟨g, h⟩ := h
      obtain ⟨gb, h⟩ := h
      have h := h _ rfl
      refine r_put3 (kd165 rfl) (by decide) rfl g gb rfl ?_
      refine r_aload_n (kd165 rfl) rfl rfl ?_
      refine r_iconst (kd165 rfl) (y := 0) (by decide) rfl ?_
      obtain ⟨g, h⟩ := h
      have h := h _ rfl
      refine r_put0 (kd165 rfl) (by decide) rfl g rfl ?_
      refine r_aload_n (kd165 rfl) rfl rfl ?_
      refine r_iconst (kd165 rfl) (y := 0) (by decide) rfl ?_
      obtain ⟨g, h⟩ := h
      have h := h _ rfl
      refine r_put0 (kd165 rfl) (by decide) rfl g rfl ?_
      refine r_aload_n (kd165 rfl) rfl rfl ?_
      obtain ⟨g, h⟩ := h
      refine r_get0 (kd165 rfl) (by decide) rfl g rfl ?_
      exact r_ireturn (kd165 rfl) R165 h
    · have h := h.2 c
      refine r_aload_n (kd165 rfl) rfl rfl ?_
      obtain ⟨g, h⟩ := h
      refine r_get2 (kd165 rfl) (by decide) rfl g rfl ?_
      refine r_iload_n (kd165 rfl) rfl rfl ?_
      refine r_aload_n (kd165 rfl) rfl rfl ?_
      obtain ⟨g, h⟩ := h
      refine r_get2 (kd165 rfl) (by decide) rfl g rfl ?_
      refine r_iload_n (kd165 rfl) rfl rfl ?_
      obtain ⟨g, h⟩ := h
      refine r_iaload (kd165 rfl) g rfl ?_
      obtain ⟨g, h⟩ := h
      have h := h _ rfl
      refine r_iastore (kd165 rfl) g rfl ?_
      refine r_iinc (kd165 rfl) rfl (y := 1) (by decide) L165 (by decide) rfl rfl ?_
      refine r_goto (kd165 rfl) ?_
      exact (hk67 _ _ _ h).less (e_sc (List.mem_of_getElem? (i := 1) rfl) (e_sc (List.mem_of_getElem? (i := 0) rfl) e_sn))
def w_Mod_load_132 (l0 : Nat) (M : eM) (Q : Int32 → eM → Prop) : Prop := e_ob M l0 12 ∧ w_Mod_raise l0 1 M (fun (v18 : Int32) (M17 : eM) => Q v18 M17)
theorem b_Mod_load_132 {d : Nat} {l0 : Nat} {M : eM} {Q : Int32 → eM → Prop} (hd : 8 ≤ d) (h : w_Mod_load_132 l0 M Q ) : e_E 165 d 0 0 132 [(0, .ref l0)] [] M (e_QI Q) := by
  unfold w_Mod_load_132 at h
  refine r_aload_n (kd165 rfl) rfl rfl ?_
  refine r_iconst (kd165 rfl) (y := 1) (by decide) rfl ?_
  obtain ⟨g, h⟩ := h
  refine r_callVI (d' := d - 1) (by omega) (kd165 rfl) (by decide) rfl rfl rfl rfl (Nat.le_of_ble_eq_true rfl) rfl L144 (Nat.le_of_ble_eq_true rfl) (Nat.le_of_ble_eq_true rfl) g (Nat.zero_le _) (Nat.zero_le _) rfl rfl rfl (b_Mod_raise (by omega) h) (fun x1 M1 h => ?_)
  exact r_ireturn (kd165 rfl) R165 h
def w_Mod_load_10 : Nat → Nat → Int32 → eM → (Int32 → eM → Prop) → Prop
  | 0, _, _, _, _ => False
  | n + 1, l0, l1, M, Q => e_ob M l0 12 ∧ ((gi M l0 1) ≤ l1 → e_ob M l0 12 ∧ ∀ M3 : eM, M3 = e_si M l0 1 0 → e_ob M3 l0 12 ∧ w_Mod_isFine l0 M3 (fun (v5 : Int32) (M4 : eM) => (v5 = 0 → e_ob M4 l0 12 ∧ ((gi M4 l0 7) = 0 → w_Mod_load_132 l0 M4 Q) ∧ (¬ (gi M4 l0 7) = 0 → e_ob M4 l0 12 ∧ w_Mod_again l0 M4 (fun (M6 : eM) => w_Mod_load_132 l0 M6 Q))) ∧ (¬ v5 = 0 → e_ob M4 l0 12 ∧ ∀ M7 : eM, M7 = e_si M4 l0 8 0 → e_ob M7 l0 12 ∧ ∀ M8 : eM, M8 = e_si M7 l0 9 0 → e_ob M8 l0 12 ∧ ∀ M9 : eM, M9 = e_si M8 l0 10 0 → ∃ n10 : Nat, w_Mod_load_67 n10 l0 0 M9 Q))) ∧ (¬ (gi M l0 1) ≤ l1 → e_ob M l0 12 ∧ e_ob M l0 12 ∧ e_ai M (gr M l0 2) l1 ∧ e_ar M (gr M l0 3) 20 l1 ∧ ∀ M11 : eM, M11 = e_si M (gr M l0 3) l1.toNatClampNeg (gi M (gr M l0 2) l1.toNatClampNeg) → (fun l0 l1 M => w_Mod_load_10 n l0 l1 M Q ) l0 (l1 + 1) M11)
theorem b_Mod_load_10 {d : Nat} {Q : Int32 → eM → Prop} (hd : 8 ≤ d) (n : Nat) : ∀ (l0 : Nat) (l1 : Int32) (M : eM), w_Mod_load_10 n l0 l1 M Q → e_E 165 d 0 0 10 [(0, .ref l0), (1, .int l1)] [] M (e_QI Q) := by
  induction n with
  | zero => intro l0 l1 M h; exact False.elim h
  | succ n ih =>
    intro l0 l1 M h
    have hk10 := ih
    refine r_iload_n (kd165 rfl) rfl rfl ?_
    refine r_aload_n (kd165 rfl) rfl rfl ?_
    obtain ⟨g, h⟩ := h
    refine r_get0 (kd165 rfl) (by decide) rfl g rfl ?_
    refine r_icmp_ge (kd165 rfl) rfl (fun c => ?_) (fun c => ?_)
    · have h := h.1 c
      refine r_aload_n (kd165 rfl) rfl rfl ?_
      refine r_iconst (kd165 rfl) (y := 0) (by decide) rfl ?_
      obtain ⟨g, h⟩ := h
      have h := h _ rfl
      refine r_put0 (kd165 rfl) (by decide) rfl g rfl ?_
      refine r_aload_n (kd165 rfl) rfl rfl ?_
      obtain ⟨g, h⟩ := h
      refine r_callVI (d' := d - 1) (by omega) (kd165 rfl) (by decide) rfl rfl rfl rfl (Nat.le_of_ble_eq_true rfl) rfl L164 (Nat.le_of_ble_eq_true rfl) (Nat.le_of_ble_eq_true rfl) g (Nat.zero_le _) (Nat.zero_le _) rfl rfl rfl (b_Mod_isFine (by omega) h) (fun x1 M1 h => ?_)
      refine r_istore_n (kd165 rfl) L165 (by decide) rfl rfl ?_
      refine r_iload_n (kd165 rfl) rfl rfl ?_
      refine r_if_eq (kd165 rfl) rfl (fun c => ?_) (fun c => ?_)
      · have h := h.1 c
        refine r_aload_n (kd165 rfl) rfl rfl ?_
        obtain ⟨g, h⟩ := h
        refine r_get3 (kd165 rfl) (by decide) rfl g rfl ?_
        refine r_if_eq (kd165 rfl) rfl (fun c => ?_) (fun c => ?_)
        · have h := h.1 c
          exact (b_Mod_load_132 hd h).less (e_sc (List.mem_of_getElem? (i := 1) rfl) e_sn)
        · have h := h.2 c
          refine r_aload_n (kd165 rfl) rfl rfl ?_
          obtain ⟨g, h⟩ := h
          refine r_callVV (d' := d - 1) (by omega) (kd165 rfl) (by decide) rfl rfl rfl rfl (Nat.le_of_ble_eq_true rfl) rfl L166 (Nat.le_of_ble_eq_true rfl) (Nat.le_of_ble_eq_true rfl) g (Nat.zero_le _) (Nat.zero_le _) rfl rfl rfl (b_Mod_again (by omega) h) (fun M1 h => ?_)
          exact (b_Mod_load_132 hd h).less (e_sc (List.mem_of_getElem? (i := 1) rfl) e_sn)
      · have h := h.2 c
        refine r_aload_n (kd165 rfl) rfl rfl ?_
        refine r_iconst (kd165 rfl) (y := 0) (by decide) rfl ?_
        obtain ⟨g, h⟩ := h
        have h := h _ rfl
        refine r_put0 (kd165 rfl) (by decide) rfl g rfl ?_
        refine r_aload_n (kd165 rfl) rfl rfl ?_
        refine r_iconst (kd165 rfl) (y := 0) (by decide) rfl ?_
        obtain ⟨g, h⟩ := h
        have h := h _ rfl
        refine r_put0 (kd165 rfl) (by decide) rfl g rfl ?_
        refine r_aload_n (kd165 rfl) rfl rfl ?_
        refine r_iconst (kd165 rfl) (y := 0) (by decide) rfl ?_
        obtain ⟨g, h⟩ := h
        have h := h _ rfl
        refine r_put0 (kd165 rfl) (by decide) rfl g rfl ?_
        refine r_iconst (kd165 rfl) (y := 0) (by decide) rfl ?_
        refine r_istore_n (kd165 rfl) L165 (by decide) rfl rfl ?_
        obtain ⟨n, h⟩ := h
        exact (b_Mod_load_67 hd n _ _ _ h).less (e_sc (List.mem_of_getElem? (i := 2) rfl) (e_sc (List.mem_of_getElem? (i := 0) rfl) e_sn))
    · have h := h.2 c
      refine r_aload_n (kd165 rfl) rfl rfl ?_
      obtain ⟨g, h⟩ := h
      refine r_get2 (kd165 rfl) (by decide) rfl g rfl ?_
      refine r_iload_n (kd165 rfl) rfl rfl ?_
      refine r_aload_n (kd165 rfl) rfl rfl ?_
      obtain ⟨g, h⟩ := h
      refine r_get2 (kd165 rfl) (by decide) rfl g rfl ?_
      refine r_iload_n (kd165 rfl) rfl rfl ?_
      obtain ⟨g, h⟩ := h
      refine r_iaload (kd165 rfl) g rfl ?_
      obtain ⟨g, h⟩ := h
      have h := h _ rfl
      refine r_iastore (kd165 rfl) g rfl ?_
      refine r_iinc (kd165 rfl) rfl (y := 1) (by decide) L165 (by decide) rfl rfl ?_
      refine r_goto (kd165 rfl) ?_
      exact (hk10 _ _ _ h).less (e_sc (List.mem_of_getElem? (i := 1) rfl) (e_sc (List.mem_of_getElem? (i := 0) rfl) e_sn))
def w_Mod_load (l0 : Nat) (M : eM) (Q : Int32 → eM → Prop) : Prop := e_ob M l0 12 ∧ e_ob M l0 12 ∧ ∀ M1 : eM, M1 = e_si M l0 4 (gi M l0 1) → ∃ n2 : Nat, w_Mod_load_10 n2 l0 0 M1 Q
theorem b_Mod_load {d : Nat} {l0 : Nat} {M : eM} {Q : Int32 → eM → Prop} (hd : 8 ≤ d) (h : w_Mod_load l0 M Q) : e_CI 165 d 0 0 [.ref l0] M Q := by
  unfold w_Mod_load at h
  show e_E 165 d 0 0 0 [(0, .ref l0)] [] M (e_QI Q)
  refine r_aload_n (kd165 rfl) rfl rfl ?_
  refine r_aload_n (kd165 rfl) rfl rfl ?_
  obtain ⟨g, h⟩ := h
  refine r_get0 (kd165 rfl) (by decide) rfl g rfl ?_
  obtain ⟨g, h⟩ := h
  have h := h _ rfl
  refine r_put0 (kd165 rfl) (by decide) rfl g rfl ?_
  refine r_iconst (kd165 rfl) (y := 0) (by decide) rfl ?_
  refine r_istore_n (kd165 rfl) L165 (by decide) rfl rfl ?_
  obtain ⟨n, h⟩ := h
  exact (b_Mod_load_10 hd n _ _ _ h).less (e_sc (List.mem_of_getElem? (i := 1) rfl) (e_sc (List.mem_of_getElem? (i := 0) rfl) e_sn))
/-- TierMillModel.fault(I)I -/
theorem kd167 {pc : Nat} {q : eI} (h : e_d167.lookup pc = some q) : e_dec 167 pc = some q := h
theorem L167 : (e_m 167).2.2.1 = 2 := rfl
theorem R167 : (e_m 167).2.2.2.1 = (some .int) := rfl
def w_Mod_fault_41 (s0 : Int32) (M : eM) (Q : Int32 → eM → Prop) : Prop := Q s0 M
theorem b_Mod_fault_41 {d : Nat} {s0 : Int32} {M : eM} {Q : Int32 → eM → Prop} (hd : 0 ≤ d) (h : w_Mod_fault_41 s0 M Q ) : e_E 167 d 0 0 41 [] [.int s0] M (e_QI Q) := by
  unfold w_Mod_fault_41 at h
  exact r_ireturn (kd167 rfl) R167 h
def w_Mod_fault (l0 : Nat) (l1 : Int32) (M : eM) (Q : Int32 → eM → Prop) : Prop := e_ob M l0 12 ∧ ∀ M1 : eM, M1 = e_si M l0 0 0 → (¬ l1 = 0 → (¬ l1 = 1 → (¬ l1 = 2 → w_Mod_fault_41 (-1) M1 Q) ∧ (l1 = 2 → e_ob M1 l0 12 ∧ w_Mod_fault_41 (gi M1 l0 10) M1 Q)) ∧ (l1 = 1 → e_ob M1 l0 12 ∧ w_Mod_fault_41 (gi M1 l0 9) M1 Q)) ∧ (l1 = 0 → e_ob M1 l0 12 ∧ w_Mod_fault_41 (gi M1 l0 8) M1 Q)
theorem b_Mod_fault {d : Nat} {l0 : Nat} {l1 : Int32} {M : eM} {Q : Int32 → eM → Prop} (hd : 0 ≤ d) (h : w_Mod_fault l0 l1 M Q) : e_CI 167 d 0 0 [.ref l0, .int l1] M Q := by
  unfold w_Mod_fault at h
  show e_E 167 d 0 0 0 [(0, .ref l0), (1, .int l1)] [] M (e_QI Q)
  refine r_aload_n (kd167 rfl) rfl rfl ?_
  refine r_iconst (kd167 rfl) (y := 0) (by decide) rfl ?_
  obtain ⟨g, h⟩ := h
  have h := h _ rfl
  refine r_put0 (kd167 rfl) (by decide) rfl g rfl ?_
  refine r_iload_n (kd167 rfl) rfl rfl ?_
  refine r_if_ne (kd167 rfl) rfl (fun c => ?_) (fun c => ?_)
  · have h := h.1 c
    refine r_iload_n (kd167 rfl) rfl rfl ?_
    refine r_iconst (kd167 rfl) (y := 1) (by decide) rfl ?_
    refine r_icmp_ne (kd167 rfl) rfl (fun c => ?_) (fun c => ?_)
    · have h := h.1 c
      refine r_iload_n (kd167 rfl) rfl rfl ?_
      refine r_iconst (kd167 rfl) (y := 2) (by decide) rfl ?_
      refine r_icmp_ne (kd167 rfl) rfl (fun c => ?_) (fun c => ?_)
      · have h := h.1 c
        refine r_iconst (kd167 rfl) (y := (-1)) (by decide) rfl ?_
        exact (b_Mod_fault_41 hd h).less e_sn
      · have h := h.2 c
        refine r_aload_n (kd167 rfl) rfl rfl ?_
        obtain ⟨g, h⟩ := h
        refine r_get0 (kd167 rfl) (by decide) rfl g rfl ?_
        refine r_goto (kd167 rfl) ?_
        exact (b_Mod_fault_41 hd h).less e_sn
    · have h := h.2 c
      refine r_aload_n (kd167 rfl) rfl rfl ?_
      obtain ⟨g, h⟩ := h
      refine r_get0 (kd167 rfl) (by decide) rfl g rfl ?_
      refine r_goto (kd167 rfl) ?_
      exact (b_Mod_fault_41 hd h).less e_sn
  · have h := h.2 c
    refine r_aload_n (kd167 rfl) rfl rfl ?_
    obtain ⟨g, h⟩ := h
    refine r_get0 (kd167 rfl) (by decide) rfl g rfl ?_
    refine r_goto (kd167 rfl) ?_
    exact (b_Mod_fault_41 hd h).less e_sn
/-- TierMillModel.kind(III)I -/
theorem kd181 {pc : Nat} {q : eI} (h : e_d181.lookup pc = some q) : e_dec 181 pc = some q := h
theorem L181 : (e_m 181).2.2.1 = 5 := rfl
theorem R181 : (e_m 181).2.2.2.1 = (some .int) := rfl
def w_Mod_kind_71 (M : eM) (Q : Int32 → eM → Prop) : Prop := Q ((-1) : Int32) M
theorem b_Mod_kind_71 {d : Nat} {M : eM} {Q : Int32 → eM → Prop} (hd : 1 ≤ d) (h : w_Mod_kind_71 M Q ) : e_E 181 d 0 0 71 [] [] M (e_QI Q) := by
  unfold w_Mod_kind_71 at h
  refine r_iconst (kd181 rfl) (y := (-1)) (by decide) rfl ?_
  exact r_ireturn (kd181 rfl) R181 h
def w_Mod_kind_148 (s0 : Int32) (M : eM) (Q : Int32 → eM → Prop) : Prop := Q s0 M
theorem b_Mod_kind_148 {d : Nat} {s0 : Int32} {M : eM} {Q : Int32 → eM → Prop} (hd : 1 ≤ d) (h : w_Mod_kind_148 s0 M Q ) : e_E 181 d 0 0 148 [] [.int s0] M (e_QI Q) := by
  unfold w_Mod_kind_148 at h
  exact r_ireturn (kd181 rfl) R181 h
def w_Mod_kind (l0 : Nat) (l1 : Int32) (l2 : Int32) (l3 : Int32) (M : eM) (Q : Int32 → eM → Prop) : Prop := e_ob M l0 12 ∧ ∀ M1 : eM, M1 = e_si M l0 0 0 → e_ob M1 l0 12 ∧ ((gi M1 l0 7) = 0 → w_Mod_kind_71 M1 Q) ∧ (¬ (gi M1 l0 7) = 0 → e_ob M1 l0 12 ∧ w_Mod_within l1 0 ((gi M1 l0 19) - 1) M1 (fun (v3 : Int32) (M2 : eM) => (v3 = 0 → w_Mod_kind_71 M2 Q) ∧ (¬ v3 = 0 → e_ob M2 l0 12 ∧ e_ai M2 (gr M2 l0 25) l1 ∧ w_Mod_within l2 0 ((gi M2 (gr M2 l0 25) l1.toNatClampNeg) - 1) M2 (fun (v5 : Int32) (M4 : eM) => (v5 = 0 → w_Mod_kind_71 M4 Q) ∧ (¬ v5 = 0 → e_ob M4 l0 12 ∧ e_ai M4 (gr M4 l0 29) ((120 * l1) + l2) ∧ ((gi M4 (gr M4 l0 29) ((120 * l1) + l2).toNatClampNeg) = (-1) → w_Mod_kind_71 M4 Q) ∧ (¬ (gi M4 (gr M4 l0 29) ((120 * l1) + l2).toNatClampNeg) = (-1) → e_ob M4 l0 12 ∧ e_ar M4 (gr M4 l0 27) 22 ((120 * l1) + l2) ∧ (¬ (gi M4 (gr M4 l0 27) ((120 * l1) + l2).toNatClampNeg) = 0 → e_ob M4 l0 12 ∧ e_ai M4 (gr M4 l0 23) l1 ∧ w_Mod_within l3 0 ((gi M4 (gr M4 l0 23) l1.toNatClampNeg) - 1) M4 (fun (v7 : Int32) (M6 : eM) => (v7 = 0 → e_ob M6 l0 12 ∧ e_ai M6 (gr M6 l0 29) ((120 * l1) + l2) ∧ w_Mod_within l3 100 (99 + (gi M6 (gr M6 l0 29) ((120 * l1) + l2).toNatClampNeg)) M6 (fun (v9 : Int32) (M8 : eM) => (v9 = 0 → w_Mod_kind_148 (-1) M8 Q) ∧ (¬ v9 = 0 → e_ob M8 l0 12 ∧ e_ai M8 (gr M8 l0 30) (((16 * ((120 * l1) + l2)) + l3) - 92) ∧ w_Mod_kind_148 (gi M8 (gr M8 l0 30) (((16 * ((120 * l1) + l2)) + l3) - 92).toNatClampNeg) M8 Q))) ∧ (¬ v7 = 0 → e_ob M6 l0 12 ∧ e_ai M6 (gr M6 l0 30) ((16 * ((120 * l1) + l2)) + l3) ∧ Q (gi M6 (gr M6 l0 30) ((16 * ((120 * l1) + l2)) + l3).toNatClampNeg) M6))) ∧ ((gi M4 (gr M4 l0 27) ((120 * l1) + l2).toNatClampNeg) = 0 → w_Mod_kind_71 M4 Q)))))))
theorem b_Mod_kind {d : Nat} {l0 : Nat} {l1 : Int32} {l2 : Int32} {l3 : Int32} {M : eM} {Q : Int32 → eM → Prop} (hd : 1 ≤ d) (h : w_Mod_kind l0 l1 l2 l3 M Q) : e_CI 181 d 0 0 [.ref l0, .int l1, .int l2, .int l3] M Q := by
  unfold w_Mod_kind at h
  show e_E 181 d 0 0 0 [(0, .ref l0), (1, .int l1), (2, .int l2), (3, .int l3)] [] M (e_QI Q)
  refine r_aload_n (kd181 rfl) rfl rfl ?_
  refine r_iconst (kd181 rfl) (y := 0) (by decide) rfl ?_
  obtain ⟨g, h⟩ := h
  have h := h _ rfl
  refine r_put0 (kd181 rfl) (by decide) rfl g rfl ?_
  refine r_aload_n (kd181 rfl) rfl rfl ?_
  obtain ⟨g, h⟩ := h
  refine r_get3 (kd181 rfl) (by decide) rfl g rfl ?_
  refine r_if_eq (kd181 rfl) rfl (fun c => ?_) (fun c => ?_)
  · have h := h.1 c
    exact (b_Mod_kind_71 hd h).less e_sn
  · have h := h.2 c
    refine r_iload_n (kd181 rfl) rfl rfl ?_
    refine r_iconst (kd181 rfl) (y := 0) (by decide) rfl ?_
    refine r_aload_n (kd181 rfl) rfl rfl ?_
    obtain ⟨g, h⟩ := h
    refine r_get0 (kd181 rfl) (by decide) rfl g rfl ?_
    refine r_iconst (kd181 rfl) (y := 1) (by decide) rfl ?_
    refine r_isub (kd181 rfl) rfl ?_
    refine r_callSI (d' := d - 1) (by omega) (kd181 rfl) (by decide) rfl rfl rfl rfl (Nat.le_of_ble_eq_true rfl) rfl L145 (Nat.le_of_ble_eq_true rfl) (Nat.le_of_ble_eq_true rfl) (Nat.zero_le _) (Nat.zero_le _) rfl rfl rfl (b_Mod_within (by omega) h) (fun x1 M1 h => ?_)
    refine r_if_eq (kd181 rfl) rfl (fun c => ?_) (fun c => ?_)
    · have h := h.1 c
      exact (b_Mod_kind_71 hd h).less e_sn
    · have h := h.2 c
      refine r_iload_n (kd181 rfl) rfl rfl ?_
      refine r_iconst (kd181 rfl) (y := 0) (by decide) rfl ?_
      refine r_aload_n (kd181 rfl) rfl rfl ?_
      obtain ⟨g, h⟩ := h
      refine r_get2 (kd181 rfl) (by decide) rfl g rfl ?_
      refine r_iload_n (kd181 rfl) rfl rfl ?_
      obtain ⟨g, h⟩ := h
      refine r_iaload (kd181 rfl) g rfl ?_
      refine r_iconst (kd181 rfl) (y := 1) (by decide) rfl ?_
      refine r_isub (kd181 rfl) rfl ?_
      refine r_callSI (d' := d - 1) (by omega) (kd181 rfl) (by decide) rfl rfl rfl rfl (Nat.le_of_ble_eq_true rfl) rfl L145 (Nat.le_of_ble_eq_true rfl) (Nat.le_of_ble_eq_true rfl) (Nat.zero_le _) (Nat.zero_le _) rfl rfl rfl (b_Mod_within (by omega) h) (fun x1 M1 h => ?_)
      refine r_if_eq (kd181 rfl) rfl (fun c => ?_) (fun c => ?_)
      · have h := h.1 c
        exact (b_Mod_kind_71 hd h).less e_sn
      · have h := h.2 c
        refine r_aload_n (kd181 rfl) rfl rfl ?_
        obtain ⟨g, h⟩ := h
        refine r_get2 (kd181 rfl) (by decide) rfl g rfl ?_
        refine r_bipush (kd181 rfl) (y := 120) (by decide) rfl ?_
        refine r_iload_n (kd181 rfl) rfl rfl ?_
        refine r_imul (kd181 rfl) rfl ?_
        refine r_iload_n (kd181 rfl) rfl rfl ?_
        refine r_iadd (kd181 rfl) rfl ?_
        obtain ⟨g, h⟩ := h
        refine r_iaload (kd181 rfl) g rfl ?_
        refine r_iconst (kd181 rfl) (y := (-1)) (by decide) rfl ?_
        refine r_icmp_eq (kd181 rfl) rfl (fun c => ?_) (fun c => ?_)
        · have h := h.1 c
          exact (b_Mod_kind_71 hd h).less e_sn
        · have h := h.2 c
          refine r_aload_n (kd181 rfl) rfl rfl ?_
          obtain ⟨g, h⟩ := h
          refine r_get2 (kd181 rfl) (by decide) rfl g rfl ?_
          refine r_bipush (kd181 rfl) (y := 120) (by decide) rfl ?_
          refine r_iload_n (kd181 rfl) rfl rfl ?_
          refine r_imul (kd181 rfl) rfl ?_
          refine r_iload_n (kd181 rfl) rfl rfl ?_
          refine r_iadd (kd181 rfl) rfl ?_
          obtain ⟨g, h⟩ := h
          refine r_baload (kd181 rfl) g rfl ?_
          refine r_if_ne (kd181 rfl) rfl (fun c => ?_) (fun c => ?_)
          · have h := h.1 c
            refine r_bipush (kd181 rfl) (y := 120) (by decide) rfl ?_
            refine r_iload_n (kd181 rfl) rfl rfl ?_
            refine r_imul (kd181 rfl) rfl ?_
            refine r_iload_n (kd181 rfl) rfl rfl ?_
            refine r_iadd (kd181 rfl) rfl ?_
            refine r_istore (kd181 rfl) L181 (by decide) rfl rfl ?_
            refine r_iload_n (kd181 rfl) rfl rfl ?_
            refine r_iconst (kd181 rfl) (y := 0) (by decide) rfl ?_
            refine r_aload_n (kd181 rfl) rfl rfl ?_
            obtain ⟨g, h⟩ := h
            refine r_get2 (kd181 rfl) (by decide) rfl g rfl ?_
            refine r_iload_n (kd181 rfl) rfl rfl ?_
            obtain ⟨g, h⟩ := h
            refine r_iaload (kd181 rfl) g rfl ?_
            refine r_iconst (kd181 rfl) (y := 1) (by decide) rfl ?_
            refine r_isub (kd181 rfl) rfl ?_
            refine r_callSI (d' := d - 1) (by omega) (kd181 rfl) (by decide) rfl rfl rfl rfl (Nat.le_of_ble_eq_true rfl) rfl L145 (Nat.le_of_ble_eq_true rfl) (Nat.le_of_ble_eq_true rfl) (Nat.zero_le _) (Nat.zero_le _) rfl rfl rfl (b_Mod_within (by omega) h) (fun x1 M1 h => ?_)
            refine r_if_eq (kd181 rfl) rfl (fun c => ?_) (fun c => ?_)
            · have h := h.1 c
              refine r_iload_n (kd181 rfl) rfl rfl ?_
              refine r_bipush (kd181 rfl) (y := 100) (by decide) rfl ?_
              refine r_bipush (kd181 rfl) (y := 99) (by decide) rfl ?_
              refine r_aload_n (kd181 rfl) rfl rfl ?_
              obtain ⟨g, h⟩ := h
              refine r_get2 (kd181 rfl) (by decide) rfl g rfl ?_
              refine r_iload (kd181 rfl) rfl rfl ?_
              obtain ⟨g, h⟩ := h
              refine r_iaload (kd181 rfl) g rfl ?_
              refine r_iadd (kd181 rfl) rfl ?_
              refine r_callSI (d' := d - 1) (by omega) (kd181 rfl) (by decide) rfl rfl rfl rfl (Nat.le_of_ble_eq_true rfl) rfl L145 (Nat.le_of_ble_eq_true rfl) (Nat.le_of_ble_eq_true rfl) (Nat.zero_le _) (Nat.zero_le _) rfl rfl rfl (b_Mod_within (by omega) h) (fun x1 M1 h => ?_)
              refine r_if_eq (kd181 rfl) rfl (fun c => ?_) (fun c => ?_)
              · have h := h.1 c
                refine r_iconst (kd181 rfl) (y := (-1)) (by decide) rfl ?_
                exact (b_Mod_kind_148 hd h).less e_sn
              · have h := h.2 c
                refine r_aload_n (kd181 rfl) rfl rfl ?_
                obtain ⟨g, h⟩ := h
                refine r_get2 (kd181 rfl) (by decide) rfl g rfl ?_
                refine r_bipush (kd181 rfl) (y := 16) (by decide) rfl ?_
                refine r_iload (kd181 rfl) rfl rfl ?_
                refine r_imul (kd181 rfl) rfl ?_
                refine r_iload_n (kd181 rfl) rfl rfl ?_
                refine r_iadd (kd181 rfl) rfl ?_
                refine r_bipush (kd181 rfl) (y := 92) (by decide) rfl ?_
                refine r_isub (kd181 rfl) rfl ?_
                obtain ⟨g, h⟩ := h
                refine r_iaload (kd181 rfl) g rfl ?_
                refine r_goto (kd181 rfl) ?_
                exact (b_Mod_kind_148 hd h).less e_sn
            · have h := h.2 c
              refine r_aload_n (kd181 rfl) rfl rfl ?_
              obtain ⟨g, h⟩ := h
              refine r_get2 (kd181 rfl) (by decide) rfl g rfl ?_
              refine r_bipush (kd181 rfl) (y := 16) (by decide) rfl ?_
              refine r_iload (kd181 rfl) rfl rfl ?_
              refine r_imul (kd181 rfl) rfl ?_
              refine r_iload_n (kd181 rfl) rfl rfl ?_
              refine r_iadd (kd181 rfl) rfl ?_
              obtain ⟨g, h⟩ := h
              refine r_iaload (kd181 rfl) g rfl ?_
              exact r_ireturn (kd181 rfl) R181 h
          · have h := h.2 c
            exact (b_Mod_kind_71 hd h).less e_sn
/-- TierMillModel.tiers(IIII)Z -/
theorem kd182 {pc : Nat} {q : eI} (h : e_d182.lookup pc = some q) : e_dec 182 pc = some q := h
theorem L182 : (e_m 182).2.2.1 = 5 := rfl
theorem R182 : (e_m 182).2.2.2.1 = (some .boolean) := rfl
def w_Mod_tiers_47 (M : eM) (Q : Int32 → eM → Prop) : Prop := ((0 : Int32) = 0 ∨ (0 : Int32) = 1) ∧ Q (0 : Int32) M
theorem b_Mod_tiers_47 {d : Nat} {M : eM} {Q : Int32 → eM → Prop} (hd : 1 ≤ d) (h : w_Mod_tiers_47 M Q ) : e_E 182 d 0 0 47 [] [] M (e_QI Q) := by
  unfold w_Mod_tiers_47 at h
  refine r_iconst (kd182 rfl) (y := 0) (by decide) rfl ?_
  exact r_zreturn (kd182 rfl) R182 h.1 h.2
def w_Mod_tiers (l0 : Nat) (l1 : Int32) (l2 : Int32) (l3 : Int32) (l4 : Int32) (M : eM) (Q : Int32 → eM → Prop) : Prop := e_ob M l0 12 ∧ ∀ M1 : eM, M1 = e_si M l0 0 0 → w_Mod_within l1 1 1000 M1 (fun (v3 : Int32) (M2 : eM) => (v3 = 0 → w_Mod_tiers_47 M2 Q) ∧ (¬ v3 = 0 → w_Mod_within l2 1 1000 M2 (fun (v5 : Int32) (M4 : eM) => (v5 = 0 → w_Mod_tiers_47 M4 Q) ∧ (¬ v5 = 0 → w_Mod_within l3 0 4 M4 (fun (v7 : Int32) (M6 : eM) => (v7 = 0 → w_Mod_tiers_47 M6 Q) ∧ (¬ v7 = 0 → w_Mod_within l4 0 120 M6 (fun (v9 : Int32) (M8 : eM) => (¬ v9 = 0 → e_ob M8 l0 12 ∧ ∀ M10 : eM, M10 = e_si M8 l0 34 l1 → e_ob M10 l0 12 ∧ ∀ M11 : eM, M11 = e_si M10 l0 35 l2 → e_ob M11 l0 12 ∧ ∀ M12 : eM, M12 = e_si M11 l0 36 l3 → e_ob M12 l0 12 ∧ ∀ M13 : eM, M13 = e_si M12 l0 37 l4 → ((1 : Int32) = 0 ∨ (1 : Int32) = 1) ∧ Q (1 : Int32) M13) ∧ (v9 = 0 → w_Mod_tiers_47 M8 Q))))))))
theorem b_Mod_tiers {d : Nat} {l0 : Nat} {l1 : Int32} {l2 : Int32} {l3 : Int32} {l4 : Int32} {M : eM} {Q : Int32 → eM → Prop} (hd : 1 ≤ d) (h : w_Mod_tiers l0 l1 l2 l3 l4 M Q) : e_CI 182 d 0 0 [.ref l0, .int l1, .int l2, .int l3, .int l4] M Q := by
  unfold w_Mod_tiers at h
  show e_E 182 d 0 0 0 [(0, .ref l0), (1, .int l1), (2, .int l2), (3, .int l3), (4, .int l4)] [] M (e_QI Q)
  refine r_aload_n (kd182 rfl) rfl rfl ?_
  refine r_iconst (kd182 rfl) (y := 0) (by decide) rfl ?_
  obtain ⟨g, h⟩ := h
  have h := h _ rfl
  refine r_put0 (kd182 rfl) (by decide) rfl g rfl ?_
  refine r_iload_n (kd182 rfl) rfl rfl ?_
  refine r_iconst (kd182 rfl) (y := 1) (by decide) rfl ?_
  refine r_sipush (kd182 rfl) (y := 1000) (by decide) rfl ?_
  refine r_callSI (d' := d - 1) (by omega) (kd182 rfl) (by decide) rfl rfl rfl rfl (Nat.le_of_ble_eq_true rfl) rfl L145 (Nat.le_of_ble_eq_true rfl) (Nat.le_of_ble_eq_true rfl) (Nat.zero_le _) (Nat.zero_le _) rfl rfl rfl (b_Mod_within (by omega) h) (fun x1 M1 h => ?_)
  refine r_if_eq (kd182 rfl) rfl (fun c => ?_) (fun c => ?_)
  · have h := h.1 c
    exact (b_Mod_tiers_47 hd h).less e_sn
  · have h := h.2 c
    refine r_iload_n (kd182 rfl) rfl rfl ?_
    refine r_iconst (kd182 rfl) (y := 1) (by decide) rfl ?_
    refine r_sipush (kd182 rfl) (y := 1000) (by decide) rfl ?_
    refine r_callSI (d' := d - 1) (by omega) (kd182 rfl) (by decide) rfl rfl rfl rfl (Nat.le_of_ble_eq_true rfl) rfl L145 (Nat.le_of_ble_eq_true rfl) (Nat.le_of_ble_eq_true rfl) (Nat.zero_le _) (Nat.zero_le _) rfl rfl rfl (b_Mod_within (by omega) h) (fun x1 M1 h => ?_)
    refine r_if_eq (kd182 rfl) rfl (fun c => ?_) (fun c => ?_)
    · have h := h.1 c
      exact (b_Mod_tiers_47 hd h).less e_sn
    · have h := h.2 c
      refine r_iload_n (kd182 rfl) rfl rfl ?_
      refine r_iconst (kd182 rfl) (y := 0) (by decide) rfl ?_
      refine r_iconst (kd182 rfl) (y := 4) (by decide) rfl ?_
      refine r_callSI (d' := d - 1) (by omega) (kd182 rfl) (by decide) rfl rfl rfl rfl (Nat.le_of_ble_eq_true rfl) rfl L145 (Nat.le_of_ble_eq_true rfl) (Nat.le_of_ble_eq_true rfl) (Nat.zero_le _) (Nat.zero_le _) rfl rfl rfl (b_Mod_within (by omega) h) (fun x1 M1 h => ?_)
      refine r_if_eq (kd182 rfl) rfl (fun c => ?_) (fun c => ?_)
      · have h := h.1 c
        exact (b_Mod_tiers_47 hd h).less e_sn
      · have h := h.2 c
        refine r_iload (kd182 rfl) rfl rfl ?_
        refine r_iconst (kd182 rfl) (y := 0) (by decide) rfl ?_
        refine r_bipush (kd182 rfl) (y := 120) (by decide) rfl ?_
        refine r_callSI (d' := d - 1) (by omega) (kd182 rfl) (by decide) rfl rfl rfl rfl (Nat.le_of_ble_eq_true rfl) rfl L145 (Nat.le_of_ble_eq_true rfl) (Nat.le_of_ble_eq_true rfl) (Nat.zero_le _) (Nat.zero_le _) rfl rfl rfl (b_Mod_within (by omega) h) (fun x1 M1 h => ?_)
        refine r_if_ne (kd182 rfl) rfl (fun c => ?_) (fun c => ?_)
        · have h := h.1 c
          refine r_aload_n (kd182 rfl) rfl rfl ?_
          refine r_iload_n (kd182 rfl) rfl rfl ?_
          obtain ⟨g, h⟩ := h
          have h := h _ rfl
          refine r_put0 (kd182 rfl) (by decide) rfl g rfl ?_
          refine r_aload_n (kd182 rfl) rfl rfl ?_
          refine r_iload_n (kd182 rfl) rfl rfl ?_
          obtain ⟨g, h⟩ := h
          have h := h _ rfl
          refine r_put0 (kd182 rfl) (by decide) rfl g rfl ?_
          refine r_aload_n (kd182 rfl) rfl rfl ?_
          refine r_iload_n (kd182 rfl) rfl rfl ?_
          obtain ⟨g, h⟩ := h
          have h := h _ rfl
          refine r_put0 (kd182 rfl) (by decide) rfl g rfl ?_
          refine r_aload_n (kd182 rfl) rfl rfl ?_
          refine r_iload (kd182 rfl) rfl rfl ?_
          obtain ⟨g, h⟩ := h
          have h := h _ rfl
          refine r_put0 (kd182 rfl) (by decide) rfl g rfl ?_
          refine r_iconst (kd182 rfl) (y := 1) (by decide) rfl ?_
          exact r_zreturn (kd182 rfl) R182 h.1 h.2
        · have h := h.2 c
          exact (b_Mod_tiers_47 hd h).less e_sn
/-- TierMillModel.room(I)Z -/
theorem kd183 {pc : Nat} {q : eI} (h : e_d183.lookup pc = some q) : e_dec 183 pc = some q := h
theorem L183 : (e_m 183).2.2.1 = 2 := rfl
theorem R183 : (e_m 183).2.2.2.1 = (some .boolean) := rfl
def w_Mod_room (l0 : Nat) (l1 : Int32) (M : eM) (Q : Int32 → eM → Prop) : Prop := e_ob M l0 12 ∧ ∀ M1 : eM, M1 = e_si M l0 0 0 → w_Mod_within l1 8 4000 M1 (fun (v3 : Int32) (M2 : eM) => (¬ v3 = 0 → e_ob M2 l0 12 ∧ ∀ M4 : eM, M4 = e_si M2 l0 38 l1 → ((1 : Int32) = 0 ∨ (1 : Int32) = 1) ∧ Q (1 : Int32) M4) ∧ (v3 = 0 → ((0 : Int32) = 0 ∨ (0 : Int32) = 1) ∧ Q (0 : Int32) M2))
theorem b_Mod_room {d : Nat} {l0 : Nat} {l1 : Int32} {M : eM} {Q : Int32 → eM → Prop} (hd : 1 ≤ d) (h : w_Mod_room l0 l1 M Q) : e_CI 183 d 0 0 [.ref l0, .int l1] M Q := by
  unfold w_Mod_room at h
  show e_E 183 d 0 0 0 [(0, .ref l0), (1, .int l1)] [] M (e_QI Q)
  refine r_aload_n (kd183 rfl) rfl rfl ?_
  refine r_iconst (kd183 rfl) (y := 0) (by decide) rfl ?_
  obtain ⟨g, h⟩ := h
  have h := h _ rfl
  refine r_put0 (kd183 rfl) (by decide) rfl g rfl ?_
  refine r_iload_n (kd183 rfl) rfl rfl ?_
  refine r_bipush (kd183 rfl) (y := 8) (by decide) rfl ?_
  refine r_sipush (kd183 rfl) (y := 4000) (by decide) rfl ?_
  refine r_callSI (d' := d - 1) (by omega) (kd183 rfl) (by decide) rfl rfl rfl rfl (Nat.le_of_ble_eq_true rfl) rfl L145 (Nat.le_of_ble_eq_true rfl) (Nat.le_of_ble_eq_true rfl) (Nat.zero_le _) (Nat.zero_le _) rfl rfl rfl (b_Mod_within (by omega) h) (fun x1 M1 h => ?_)
  refine r_if_ne (kd183 rfl) rfl (fun c => ?_) (fun c => ?_)
  · have h := h.1 c
    refine r_aload_n (kd183 rfl) rfl rfl ?_
    refine r_iload_n (kd183 rfl) rfl rfl ?_
    obtain ⟨g, h⟩ := h
    have h := h _ rfl
    refine r_put0 (kd183 rfl) (by decide) rfl g rfl ?_
    refine r_iconst (kd183 rfl) (y := 1) (by decide) rfl ?_
    exact r_zreturn (kd183 rfl) R183 h.1 h.2
  · have h := h.2 c
    refine r_iconst (kd183 rfl) (y := 0) (by decide) rfl ?_
    exact r_zreturn (kd183 rfl) R183 h.1 h.2
/-- TierMillModel.give(I)Z -/
theorem kd184 {pc : Nat} {q : eI} (h : e_d184.lookup pc = some q) : e_dec 184 pc = some q := h
theorem L184 : (e_m 184).2.2.1 = 2 := rfl
theorem R184 : (e_m 184).2.2.2.1 = (some .boolean) := rfl
def w_Mod_give (l0 : Nat) (l1 : Int32) (M : eM) (Q : Int32 → eM → Prop) : Prop := e_ob M l0 12 ∧ ∀ M1 : eM, M1 = e_si M l0 0 0 → e_ob M1 l0 12 ∧ (¬ (gi M1 l0 39) = 100 → e_ob M1 l0 12 ∧ e_ob M1 l0 12 ∧ e_ar M1 (gr M1 l0 40) 20 (gi M1 l0 39) ∧ ∀ M2 : eM, M2 = e_si M1 (gr M1 l0 40) (gi M1 l0 39).toNatClampNeg l1 → e_ob M2 l0 12 ∧ e_ob M2 l0 12 ∧ ∀ M3 : eM, M3 = e_si M2 l0 39 ((gi M2 l0 39) + 1) → ((1 : Int32) = 0 ∨ (1 : Int32) = 1) ∧ Q (1 : Int32) M3) ∧ ((gi M1 l0 39) = 100 → ((0 : Int32) = 0 ∨ (0 : Int32) = 1) ∧ Q (0 : Int32) M1)
theorem b_Mod_give {d : Nat} {l0 : Nat} {l1 : Int32} {M : eM} {Q : Int32 → eM → Prop} (hd : 0 ≤ d) (h : w_Mod_give l0 l1 M Q) : e_CI 184 d 0 0 [.ref l0, .int l1] M Q := by
  unfold w_Mod_give at h
  show e_E 184 d 0 0 0 [(0, .ref l0), (1, .int l1)] [] M (e_QI Q)
  refine r_aload_n (kd184 rfl) rfl rfl ?_
  refine r_iconst (kd184 rfl) (y := 0) (by decide) rfl ?_
  obtain ⟨g, h⟩ := h
  have h := h _ rfl
  refine r_put0 (kd184 rfl) (by decide) rfl g rfl ?_
  refine r_aload_n (kd184 rfl) rfl rfl ?_
  obtain ⟨g, h⟩ := h
  refine r_get0 (kd184 rfl) (by decide) rfl g rfl ?_
  refine r_bipush (kd184 rfl) (y := 100) (by decide) rfl ?_
  refine r_icmp_ne (kd184 rfl) rfl (fun c => ?_) (fun c => ?_)
  · have h := h.1 c
    refine r_aload_n (kd184 rfl) rfl rfl ?_
    obtain ⟨g, h⟩ := h
    refine r_get2 (kd184 rfl) (by decide) rfl g rfl ?_
    refine r_aload_n (kd184 rfl) rfl rfl ?_
    obtain ⟨g, h⟩ := h
    refine r_get0 (kd184 rfl) (by decide) rfl g rfl ?_
    refine r_iload_n (kd184 rfl) rfl rfl ?_
    obtain ⟨g, h⟩ := h
    have h := h _ rfl
    refine r_iastore (kd184 rfl) g rfl ?_
    refine r_aload_n (kd184 rfl) rfl rfl ?_
    refine r_dup (kd184 rfl) rfl rfl ?_
    obtain ⟨g, h⟩ := h
    refine r_get0 (kd184 rfl) (by decide) rfl g rfl ?_
    refine r_iconst (kd184 rfl) (y := 1) (by decide) rfl ?_
    refine r_iadd (kd184 rfl) rfl ?_
    obtain ⟨g, h⟩ := h
    have h := h _ rfl
    refine r_put0 (kd184 rfl) (by decide) rfl g rfl ?_
    refine r_iconst (kd184 rfl) (y := 1) (by decide) rfl ?_
    exact r_zreturn (kd184 rfl) R184 h.1 h.2
  · have h := h.2 c
    refine r_iconst (kd184 rfl) (y := 0) (by decide) rfl ?_
    exact r_zreturn (kd184 rfl) R184 h.1 h.2
/-- TierMillModel.newFrame(IIII)V -/
theorem kd186 {pc : Nat} {q : eI} (h : e_d186.lookup pc = some q) : e_dec 186 pc = some q := h
theorem L186 : (e_m 186).2.2.1 = 7 := rfl
theorem R186 : (e_m 186).2.2.2.1 = none := rfl
def w_Mod_newFrame_76 : Nat → Nat → Int32 → Int32 → eM → (eM → Prop) → Prop
  | 0, _, _, _, _, _ => False
  | n + 1, l0, l5, l6, M, Q => (8 ≤ l6 → Q M) ∧ (¬ 8 ≤ l6 → e_ob M l0 12 ∧ e_ar M (gr M l0 68) 20 ((8 * l5) + l6) ∧ ∀ M10 : eM, M10 = e_si M (gr M l0 68) ((8 * l5) + l6).toNatClampNeg 0 → (fun l0 l5 l6 M => w_Mod_newFrame_76 n l0 l5 l6 M Q ) l0 l5 (l6 + 1) M10)
theorem b_Mod_newFrame_76 {d : Nat} {Q : eM → Prop} (hd : 0 ≤ d) (n : Nat) : ∀ (l0 : Nat) (l5 : Int32) (l6 : Int32) (M : eM), w_Mod_newFrame_76 n l0 l5 l6 M Q → e_E 186 d 0 0 76 [(0, .ref l0), (5, .int l5), (6, .int l6)] [] M (e_QV Q) := by
  induction n with
  | zero => intro l0 l5 l6 M h; exact False.elim h
  | succ n ih =>
    intro l0 l5 l6 M h
    have hk76 := ih
    refine r_iload (kd186 rfl) rfl rfl ?_
    refine r_bipush (kd186 rfl) (y := 8) (by decide) rfl ?_
    refine r_icmp_ge (kd186 rfl) rfl (fun c => ?_) (fun c => ?_)
    · have h := h.1 c
      exact r_return (kd186 rfl) R186 h
    · have h := h.2 c
      refine r_aload_n (kd186 rfl) rfl rfl ?_
      obtain ⟨g, h⟩ := h
      refine r_get2 (kd186 rfl) (by decide) rfl g rfl ?_
      refine r_bipush (kd186 rfl) (y := 8) (by decide) rfl ?_
      refine r_iload (kd186 rfl) rfl rfl ?_
      refine r_imul (kd186 rfl) rfl ?_
      refine r_iload (kd186 rfl) rfl rfl ?_
      refine r_iadd (kd186 rfl) rfl ?_
      refine r_iconst (kd186 rfl) (y := 0) (by decide) rfl ?_
      obtain ⟨g, h⟩ := h
      have h := h _ rfl
      refine r_iastore (kd186 rfl) g rfl ?_
      refine r_iinc (kd186 rfl) rfl (y := 1) (by decide) L186 (by decide) rfl rfl ?_
      refine r_goto (kd186 rfl) ?_
      exact (hk76 _ _ _ _ h).less (e_sc (List.mem_of_getElem? (i := 1) rfl) (e_sc (List.mem_of_getElem? (i := 2) rfl) (e_sc (List.mem_of_getElem? (i := 0) rfl) e_sn)))
def w_Mod_newFrame (l0 : Nat) (l1 : Int32) (l2 : Int32) (l3 : Int32) (l4 : Int32) (M : eM) (Q : eM → Prop) : Prop := e_ob M l0 12 ∧ e_ob M l0 12 ∧ e_ob M l0 12 ∧ ∀ M1 : eM, M1 = e_si M l0 60 ((gi M l0 60) + 1) → e_ob M1 l0 12 ∧ e_ar M1 (gr M1 l0 61) 20 (gi M l0 60) ∧ ∀ M2 : eM, M2 = e_si M1 (gr M1 l0 61) (gi M l0 60).toNatClampNeg l1 → e_ob M2 l0 12 ∧ e_ar M2 (gr M2 l0 62) 20 (gi M l0 60) ∧ ∀ M3 : eM, M3 = e_si M2 (gr M2 l0 62) (gi M l0 60).toNatClampNeg 0 → e_ob M3 l0 12 ∧ e_ar M3 (gr M3 l0 63) 20 (gi M l0 60) ∧ ∀ M4 : eM, M4 = e_si M3 (gr M3 l0 63) (gi M l0 60).toNatClampNeg 0 → e_ob M4 l0 12 ∧ e_ar M4 (gr M4 l0 64) 20 (gi M l0 60) ∧ ∀ M5 : eM, M5 = e_si M4 (gr M4 l0 64) (gi M l0 60).toNatClampNeg l2 → e_ob M5 l0 12 ∧ e_ar M5 (gr M5 l0 65) 20 (gi M l0 60) ∧ ∀ M6 : eM, M6 = e_si M5 (gr M5 l0 65) (gi M l0 60).toNatClampNeg l3 → e_ob M6 l0 12 ∧ e_ar M6 (gr M6 l0 66) 20 (gi M l0 60) ∧ ∀ M7 : eM, M7 = e_si M6 (gr M6 l0 66) (gi M l0 60).toNatClampNeg l4 → e_ob M7 l0 12 ∧ e_ar M7 (gr M7 l0 67) 20 (gi M l0 60) ∧ ∀ M8 : eM, M8 = e_si M7 (gr M7 l0 67) (gi M l0 60).toNatClampNeg 0 → ∃ n9 : Nat, w_Mod_newFrame_76 n9 l0 (gi M l0 60) 0 M8 Q
theorem b_Mod_newFrame {d : Nat} {l0 : Nat} {l1 : Int32} {l2 : Int32} {l3 : Int32} {l4 : Int32} {M : eM} {Q : eM → Prop} (hd : 0 ≤ d) (h : w_Mod_newFrame l0 l1 l2 l3 l4 M Q) : e_CV 186 d 0 0 [.ref l0, .int l1, .int l2, .int l3, .int l4] M Q := by
  unfold w_Mod_newFrame at h
  show e_E 186 d 0 0 0 [(0, .ref l0), (1, .int l1), (2, .int l2), (3, .int l3), (4, .int l4)] [] M (e_QV Q)
  refine r_aload_n (kd186 rfl) rfl rfl ?_
  obtain ⟨g, h⟩ := h
  refine r_get0 (kd186 rfl) (by decide) rfl g rfl ?_
  refine r_istore (kd186 rfl) L186 (by decide) rfl rfl ?_
  refine r_aload_n (kd186 rfl) rfl rfl ?_
  refine r_dup (kd186 rfl) rfl rfl ?_
  obtain ⟨g, h⟩ := h
  refine r_get0 (kd186 rfl) (by decide) rfl g rfl ?_
  refine r_iconst (kd186 rfl) (y := 1) (by decide) rfl ?_
  refine r_iadd (kd186 rfl) rfl ?_
  obtain ⟨g, h⟩ := h
  have h := h _ rfl
  refine r_put0 (kd186 rfl) (by decide) rfl g rfl ?_
  refine r_aload_n (kd186 rfl) rfl rfl ?_
  obtain ⟨g, h⟩ := h
  refine r_get2 (kd186 rfl) (by decide) rfl g rfl ?_
  refine r_iload (kd186 rfl) rfl rfl ?_
  refine r_iload_n (kd186 rfl) rfl rfl ?_
  obtain ⟨g, h⟩ := h
  have h := h _ rfl
  refine r_iastore (kd186 rfl) g rfl ?_
  refine r_aload_n (kd186 rfl) rfl rfl ?_
  obtain ⟨g, h⟩ := h
  refine r_get2 (kd186 rfl) (by decide) rfl g rfl ?_
  refine r_iload (kd186 rfl) rfl rfl ?_
  refine r_iconst (kd186 rfl) (y := 0) (by decide) rfl ?_
  obtain ⟨g, h⟩ := h
  have h := h _ rfl
  refine r_iastore (kd186 rfl) g rfl ?_
  refine r_aload_n (kd186 rfl) rfl rfl ?_
  obtain ⟨g, h⟩ := h
  refine r_get2 (kd186 rfl) (by decide) rfl g rfl ?_
  refine r_iload (kd186 rfl) rfl rfl ?_
  refine r_iconst (kd186 rfl) (y := 0) (by decide) rfl ?_
  obtain ⟨g, h⟩ := h
  have h := h _ rfl
  refine r_iastore (kd186 rfl) g rfl ?_
  refine r_aload_n (kd186 rfl) rfl rfl ?_
  obtain ⟨g, h⟩ := h
  refine r_get2 (kd186 rfl) (by decide) rfl g rfl ?_
  refine r_iload (kd186 rfl) rfl rfl ?_
  refine r_iload_n (kd186 rfl) rfl rfl ?_
  obtain ⟨g, h⟩ := h
  have h := h _ rfl
  refine r_iastore (kd186 rfl) g rfl ?_
  refine r_aload_n (kd186 rfl) rfl rfl ?_
  obtain ⟨g, h⟩ := h
  refine r_get2 (kd186 rfl) (by decide) rfl g rfl ?_
  refine r_iload (kd186 rfl) rfl rfl ?_
  refine r_iload_n (kd186 rfl) rfl rfl ?_
  obtain ⟨g, h⟩ := h
  have h := h _ rfl
  refine r_iastore (kd186 rfl) g rfl ?_
  refine r_aload_n (kd186 rfl) rfl rfl ?_
  obtain ⟨g, h⟩ := h
  refine r_get2 (kd186 rfl) (by decide) rfl g rfl ?_
  refine r_iload (kd186 rfl) rfl rfl ?_
  refine r_iload (kd186 rfl) rfl rfl ?_
  obtain ⟨g, h⟩ := h
  have h := h _ rfl
  refine r_iastore (kd186 rfl) g rfl ?_
  refine r_aload_n (kd186 rfl) rfl rfl ?_
  obtain ⟨g, h⟩ := h
  refine r_get2 (kd186 rfl) (by decide) rfl g rfl ?_
  refine r_iload (kd186 rfl) rfl rfl ?_
  refine r_iconst (kd186 rfl) (y := 0) (by decide) rfl ?_
  obtain ⟨g, h⟩ := h
  have h := h _ rfl
  refine r_iastore (kd186 rfl) g rfl ?_
  refine r_iconst (kd186 rfl) (y := 0) (by decide) rfl ?_
  refine r_istore (kd186 rfl) L186 (by decide) rfl rfl ?_
  obtain ⟨n, h⟩ := h
  exact (b_Mod_newFrame_76 hd n _ _ _ _ h).less (e_sc (List.mem_of_getElem? (i := 2) rfl) (e_sc (List.mem_of_getElem? (i := 1) rfl) (e_sc (List.mem_of_getElem? (i := 0) rfl) e_sn)))
/-- TierMillModel.note(IIII)V -/
theorem kd187 {pc : Nat} {q : eI} (h : e_d187.lookup pc = some q) : e_dec 187 pc = some q := h
theorem L187 : (e_m 187).2.2.1 = 5 := rfl
theorem R187 : (e_m 187).2.2.2.1 = none := rfl
def w_Mod_note_102 (s0 : Int32) (s1 : Int32) (s2 : Nat) (M : eM) (Q : eM → Prop) : Prop := e_ob M s2 12 ∧ ∀ M6 : eM, M6 = e_si M s2 52 (s1 + s0) → Q M6
theorem b_Mod_note_102 {d : Nat} {s0 : Int32} {s1 : Int32} {s2 : Nat} {M : eM} {Q : eM → Prop} (hd : 0 ≤ d) (h : w_Mod_note_102 s0 s1 s2 M Q ) : e_E 187 d 0 0 102 [] [.int s0, .int s1, .ref s2] M (e_QV Q) := by
  unfold w_Mod_note_102 at h
  refine r_iadd (kd187 rfl) rfl ?_
  obtain ⟨g, h⟩ := h
  have h := h _ rfl
  refine r_put0 (kd187 rfl) (by decide) rfl g rfl ?_
  exact r_return (kd187 rfl) R187 h
def w_Mod_note_82 (l0 : Nat) (M : eM) (Q : eM → Prop) : Prop := e_ob M l0 12 ∧ e_ob M l0 12 ∧ (300 ≤ (gi M l0 52) → w_Mod_note_102 0 (gi M l0 52) l0 M Q) ∧ (¬ 300 ≤ (gi M l0 52) → w_Mod_note_102 1 (gi M l0 52) l0 M Q)
theorem b_Mod_note_82 {d : Nat} {l0 : Nat} {M : eM} {Q : eM → Prop} (hd : 0 ≤ d) (h : w_Mod_note_82 l0 M Q ) : e_E 187 d 0 0 82 [(0, .ref l0)] [] M (e_QV Q) := by
  unfold w_Mod_note_82 at h
  refine r_aload_n (kd187 rfl) rfl rfl ?_
  refine r_dup (kd187 rfl) rfl rfl ?_
  obtain ⟨g, h⟩ := h
  refine r_get0 (kd187 rfl) (by decide) rfl g rfl ?_
  refine r_aload_n (kd187 rfl) rfl rfl ?_
  obtain ⟨g, h⟩ := h
  refine r_get0 (kd187 rfl) (by decide) rfl g rfl ?_
  refine r_sipush (kd187 rfl) (y := 300) (by decide) rfl ?_
  refine r_icmp_ge (kd187 rfl) rfl (fun c => ?_) (fun c => ?_)
  · have h := h.1 c
    refine r_iconst (kd187 rfl) (y := 0) (by decide) rfl ?_
    exact (b_Mod_note_102 hd h).less e_sn
  · have h := h.2 c
    refine r_iconst (kd187 rfl) (y := 1) (by decide) rfl ?_
    refine r_goto (kd187 rfl) ?_
    exact (b_Mod_note_102 hd h).less e_sn
def w_Mod_note (l0 : Nat) (l1 : Int32) (l2 : Int32) (l3 : Int32) (l4 : Int32) (M : eM) (Q : eM → Prop) : Prop := e_ob M l0 12 ∧ (300 ≤ (gi M l0 52) → w_Mod_note_82 l0 M Q) ∧ (¬ 300 ≤ (gi M l0 52) → e_ob M l0 12 ∧ e_ob M l0 12 ∧ e_ar M (gr M l0 53) 20 (5 * (gi M l0 52)) ∧ ∀ M1 : eM, M1 = e_si M (gr M l0 53) (5 * (gi M l0 52)).toNatClampNeg l1 → e_ob M1 l0 12 ∧ e_ob M1 l0 12 ∧ e_ob M1 l0 12 ∧ e_ar M1 (gr M1 l0 53) 20 ((5 * (gi M1 l0 52)) + 1) ∧ ∀ M2 : eM, M2 = e_si M1 (gr M1 l0 53) ((5 * (gi M1 l0 52)) + 1).toNatClampNeg (gi M1 l0 44) → e_ob M2 l0 12 ∧ e_ob M2 l0 12 ∧ e_ar M2 (gr M2 l0 53) 20 ((5 * (gi M2 l0 52)) + 2) ∧ ∀ M3 : eM, M3 = e_si M2 (gr M2 l0 53) ((5 * (gi M2 l0 52)) + 2).toNatClampNeg l2 → e_ob M3 l0 12 ∧ e_ob M3 l0 12 ∧ e_ar M3 (gr M3 l0 53) 20 ((5 * (gi M3 l0 52)) + 3) ∧ ∀ M4 : eM, M4 = e_si M3 (gr M3 l0 53) ((5 * (gi M3 l0 52)) + 3).toNatClampNeg l3 → e_ob M4 l0 12 ∧ e_ob M4 l0 12 ∧ e_ar M4 (gr M4 l0 53) 20 ((5 * (gi M4 l0 52)) + 4) ∧ ∀ M5 : eM, M5 = e_si M4 (gr M4 l0 53) ((5 * (gi M4 l0 52)) + 4).toNatClampNeg l4 → w_Mod_note_82 l0 M5 Q)
theorem b_Mod_note {d : Nat} {l0 : Nat} {l1 : Int32} {l2 : Int32} {l3 : Int32} {l4 : Int32} {M : eM} {Q : eM → Prop} (hd : 0 ≤ d) (h : w_Mod_note l0 l1 l2 l3 l4 M Q) : e_CV 187 d 0 0 [.ref l0, .int l1, .int l2, .int l3, .int l4] M Q := by
  unfold w_Mod_note at h
  show e_E 187 d 0 0 0 [(0, .ref l0), (1, .int l1), (2, .int l2), (3, .int l3), (4, .int l4)] [] M (e_QV Q)
  refine r_aload_n (kd187 rfl) rfl rfl ?_
  obtain ⟨g, h⟩ := h
  refine r_get0 (kd187 rfl) (by decide) rfl g rfl ?_
  refine r_sipush (kd187 rfl) (y := 300) (by decide) rfl ?_
  refine r_icmp_ge (kd187 rfl) rfl (fun c => ?_) (fun c => ?_)
  · have h := h.1 c
    exact (b_Mod_note_82 hd h).less (e_sc (List.mem_of_getElem? (i := 0) rfl) e_sn)
  · have h := h.2 c
    refine r_aload_n (kd187 rfl) rfl rfl ?_
    obtain ⟨g, h⟩ := h
    refine r_get2 (kd187 rfl) (by decide) rfl g rfl ?_
    refine r_iconst (kd187 rfl) (y := 5) (by decide) rfl ?_
    refine r_aload_n (kd187 rfl) rfl rfl ?_
    obtain ⟨g, h⟩ := h
    refine r_get0 (kd187 rfl) (by decide) rfl g rfl ?_
    refine r_imul (kd187 rfl) rfl ?_
    refine r_iload_n (kd187 rfl) rfl rfl ?_
    obtain ⟨g, h⟩ := h
    have h := h _ rfl
    refine r_iastore (kd187 rfl) g rfl ?_
    refine r_aload_n (kd187 rfl) rfl rfl ?_
    obtain ⟨g, h⟩ := h
    refine r_get2 (kd187 rfl) (by decide) rfl g rfl ?_
    refine r_iconst (kd187 rfl) (y := 5) (by decide) rfl ?_
    refine r_aload_n (kd187 rfl) rfl rfl ?_
    obtain ⟨g, h⟩ := h
    refine r_get0 (kd187 rfl) (by decide) rfl g rfl ?_
    refine r_imul (kd187 rfl) rfl ?_
    refine r_iconst (kd187 rfl) (y := 1) (by decide) rfl ?_
    refine r_iadd (kd187 rfl) rfl ?_
    refine r_aload_n (kd187 rfl) rfl rfl ?_
    obtain ⟨g, h⟩ := h
    refine r_get0 (kd187 rfl) (by decide) rfl g rfl ?_
    obtain ⟨g, h⟩ := h
    have h := h _ rfl
    refine r_iastore (kd187 rfl) g rfl ?_
    refine r_aload_n (kd187 rfl) rfl rfl ?_
    obtain ⟨g, h⟩ := h
    refine r_get2 (kd187 rfl) (by decide) rfl g rfl ?_
    refine r_iconst (kd187 rfl) (y := 5) (by decide) rfl ?_
    refine r_aload_n (kd187 rfl) rfl rfl ?_
    obtain ⟨g, h⟩ := h
    refine r_get0 (kd187 rfl) (by decide) rfl g rfl ?_
    refine r_imul (kd187 rfl) rfl ?_
    refine r_iconst (kd187 rfl) (y := 2) (by decide) rfl ?_
    refine r_iadd (kd187 rfl) rfl ?_
    refine r_iload_n (kd187 rfl) rfl rfl ?_
    obtain ⟨g, h⟩ := h
    have h := h _ rfl
    refine r_iastore (kd187 rfl) g rfl ?_
    refine r_aload_n (kd187 rfl) rfl rfl ?_
    obtain ⟨g, h⟩ := h
    refine r_get2 (kd187 rfl) (by decide) rfl g rfl ?_
    refine r_iconst (kd187 rfl) (y := 5) (by decide) rfl ?_
    refine r_aload_n (kd187 rfl) rfl rfl ?_
    obtain ⟨g, h⟩ := h
    refine r_get0 (kd187 rfl) (by decide) rfl g rfl ?_
    refine r_imul (kd187 rfl) rfl ?_
    refine r_iconst (kd187 rfl) (y := 3) (by decide) rfl ?_
    refine r_iadd (kd187 rfl) rfl ?_
    refine r_iload_n (kd187 rfl) rfl rfl ?_
    obtain ⟨g, h⟩ := h
    have h := h _ rfl
    refine r_iastore (kd187 rfl) g rfl ?_
    refine r_aload_n (kd187 rfl) rfl rfl ?_
    obtain ⟨g, h⟩ := h
    refine r_get2 (kd187 rfl) (by decide) rfl g rfl ?_
    refine r_iconst (kd187 rfl) (y := 5) (by decide) rfl ?_
    refine r_aload_n (kd187 rfl) rfl rfl ?_
    obtain ⟨g, h⟩ := h
    refine r_get0 (kd187 rfl) (by decide) rfl g rfl ?_
    refine r_imul (kd187 rfl) rfl ?_
    refine r_iconst (kd187 rfl) (y := 4) (by decide) rfl ?_
    refine r_iadd (kd187 rfl) rfl ?_
    refine r_iload (kd187 rfl) rfl rfl ?_
    obtain ⟨g, h⟩ := h
    have h := h _ rfl
    refine r_iastore (kd187 rfl) g rfl ?_
    exact (b_Mod_note_82 hd h).less (e_sc (List.mem_of_getElem? (i := 0) rfl) e_sn)
/-- TierMillModel.profileOf(III)I -/
theorem kd189 {pc : Nat} {q : eI} (h : e_d189.lookup pc = some q) : e_dec 189 pc = some q := h
theorem L189 : (e_m 189).2.2.1 = 4 := rfl
theorem R189 : (e_m 189).2.2.2.1 = (some .int) := rfl
def w_Mod_profileOf (l0 : Nat) (l1 : Int32) (l2 : Int32) (l3 : Int32) (M : eM) (Q : Int32 → eM → Prop) : Prop := e_ob M l0 12 ∧ e_ai M (gr M l0 51) ((8 * ((120 * l1) + l2)) + l3) ∧ Q (gi M (gr M l0 51) ((8 * ((120 * l1) + l2)) + l3).toNatClampNeg) M
theorem b_Mod_profileOf {d : Nat} {l0 : Nat} {l1 : Int32} {l2 : Int32} {l3 : Int32} {M : eM} {Q : Int32 → eM → Prop} (hd : 0 ≤ d) (h : w_Mod_profileOf l0 l1 l2 l3 M Q) : e_CI 189 d 0 0 [.ref l0, .int l1, .int l2, .int l3] M Q := by
  unfold w_Mod_profileOf at h
  show e_E 189 d 0 0 0 [(0, .ref l0), (1, .int l1), (2, .int l2), (3, .int l3)] [] M (e_QI Q)
  refine r_aload_n (kd189 rfl) rfl rfl ?_
  obtain ⟨g, h⟩ := h
  refine r_get2 (kd189 rfl) (by decide) rfl g rfl ?_
  refine r_bipush (kd189 rfl) (y := 8) (by decide) rfl ?_
  refine r_bipush (kd189 rfl) (y := 120) (by decide) rfl ?_
  refine r_iload_n (kd189 rfl) rfl rfl ?_
  refine r_imul (kd189 rfl) rfl ?_
  refine r_iload_n (kd189 rfl) rfl rfl ?_
  refine r_iadd (kd189 rfl) rfl ?_
  refine r_imul (kd189 rfl) rfl ?_
  refine r_iload_n (kd189 rfl) rfl rfl ?_
  refine r_iadd (kd189 rfl) rfl ?_
  obtain ⟨g, h⟩ := h
  refine r_iaload (kd189 rfl) g rfl ?_
  exact r_ireturn (kd189 rfl) R189 h
/-- TierMillModel.isLaid(III)Z -/
theorem kd191 {pc : Nat} {q : eI} (h : e_d191.lookup pc = some q) : e_dec 191 pc = some q := h
theorem L191 : (e_m 191).2.2.1 = 8 := rfl
theorem R191 : (e_m 191).2.2.2.1 = (some .boolean) := rfl
def w_Mod_isLaid_68 (l0 : Nat) (l1 : Int32) (l2 : Int32) (l3 : Int32) (l4 : Int32) (l5 : Int32) (l6 : Int32) (s0 : Int32) (s1 : Nat) (M : eM) (Q : Int32 → eM → Prop) (k14 : Nat → Int32 → Int32 → Int32 → Int32 → Int32 → Int32 → eM → Prop) : Prop := e_ob M s1 12 ∧ ∀ M5 : eM, M5 = e_si M s1 86 s0 → k14 l0 l1 l2 l3 l4 l5 (l6 + 1) M5
theorem b_Mod_isLaid_68 {d : Nat} {l0 : Nat} {l1 : Int32} {l2 : Int32} {l3 : Int32} {l4 : Int32} {l5 : Int32} {l6 : Int32} {s0 : Int32} {s1 : Nat} {M : eM} {Q : Int32 → eM → Prop} {k14 : Nat → Int32 → Int32 → Int32 → Int32 → Int32 → Int32 → eM → Prop} (hd : 1 ≤ d) (hk14 : ∀ (l0 : Nat) (l1 : Int32) (l2 : Int32) (l3 : Int32) (l4 : Int32) (l5 : Int32) (l6 : Int32) (M : eM), k14 l0 l1 l2 l3 l4 l5 l6 M → e_E 191 d 0 0 14 [(0, .ref l0), (1, .int l1), (2, .int l2), (3, .int l3), (4, .int l4), (5, .int l5), (6, .int l6)] [] M (e_QI Q)) (h : w_Mod_isLaid_68 l0 l1 l2 l3 l4 l5 l6 s0 s1 M Q k14) : e_E 191 d 0 0 68 [(0, .ref l0), (1, .int l1), (2, .int l2), (3, .int l3), (4, .int l4), (5, .int l5), (6, .int l6)] [.int s0, .ref s1] M (e_QI Q) := by
  unfold w_Mod_isLaid_68 at h
  obtain ⟨g, h⟩ := h
  have h := h _ rfl
  refine r_put0 (kd191 rfl) (by decide) rfl g rfl ?_
  refine r_iinc (kd191 rfl) rfl (y := 1) (by decide) L191 (by decide) rfl rfl ?_
  refine r_goto (kd191 rfl) ?_
  exact (hk14 _ _ _ _ _ _ _ _ h).less (e_sc (List.mem_of_getElem? (i := 1) rfl) (e_sc (List.mem_of_getElem? (i := 2) rfl) (e_sc (List.mem_of_getElem? (i := 3) rfl) (e_sc (List.mem_of_getElem? (i := 4) rfl) (e_sc (List.mem_of_getElem? (i := 5) rfl) (e_sc (List.mem_of_getElem? (i := 6) rfl) (e_sc (List.mem_of_getElem? (i := 0) rfl) e_sn)))))))
def w_Mod_isLaid_50 (l0 : Nat) (l1 : Int32) (l2 : Int32) (l3 : Int32) (l4 : Int32) (l6 : Int32) (l7 : Int32) (s0 : Int32) (s1 : Int32) (M : eM) (Q : Int32 → eM → Prop) (k14 : Nat → Int32 → Int32 → Int32 → Int32 → Int32 → Int32 → eM → Prop) : Prop := (l7 ≤ 0 → e_ob M l0 12 ∧ w_Mod_isLaid_68 l0 l1 l2 l3 l4 (s1 + s0) l6 (gi M l0 86) l0 M Q k14) ∧ (¬ l7 ≤ 0 → w_Mod_isLaid_68 l0 l1 l2 l3 l4 (s1 + s0) l6 l6 l0 M Q k14)
theorem b_Mod_isLaid_50 {d : Nat} {l0 : Nat} {l1 : Int32} {l2 : Int32} {l3 : Int32} {l4 : Int32} {l6 : Int32} {l7 : Int32} {s0 : Int32} {s1 : Int32} {M : eM} {Q : Int32 → eM → Prop} {k14 : Nat → Int32 → Int32 → Int32 → Int32 → Int32 → Int32 → eM → Prop} (hd : 1 ≤ d) (hk14 : ∀ (l0 : Nat) (l1 : Int32) (l2 : Int32) (l3 : Int32) (l4 : Int32) (l5 : Int32) (l6 : Int32) (M : eM), k14 l0 l1 l2 l3 l4 l5 l6 M → e_E 191 d 0 0 14 [(0, .ref l0), (1, .int l1), (2, .int l2), (3, .int l3), (4, .int l4), (5, .int l5), (6, .int l6)] [] M (e_QI Q)) (h : w_Mod_isLaid_50 l0 l1 l2 l3 l4 l6 l7 s0 s1 M Q k14) : e_E 191 d 0 0 50 [(0, .ref l0), (1, .int l1), (2, .int l2), (3, .int l3), (4, .int l4), (6, .int l6), (7, .int l7)] [.int s0, .int s1] M (e_QI Q) := by
  unfold w_Mod_isLaid_50 at h
  refine r_iadd (kd191 rfl) rfl ?_
  refine r_istore (kd191 rfl) L191 (by decide) rfl rfl ?_
  refine r_aload_n (kd191 rfl) rfl rfl ?_
  refine r_iload (kd191 rfl) rfl rfl ?_
  refine r_if_le (kd191 rfl) rfl (fun c => ?_) (fun c => ?_)
  · have h := h.1 c
    refine r_aload_n (kd191 rfl) rfl rfl ?_
    obtain ⟨g, h⟩ := h
    refine r_get0 (kd191 rfl) (by decide) rfl g rfl ?_
    exact (b_Mod_isLaid_68 hd hk14 h).less (e_sc (List.mem_of_getElem? (i := 1) rfl) (e_sc (List.mem_of_getElem? (i := 2) rfl) (e_sc (List.mem_of_getElem? (i := 3) rfl) (e_sc (List.mem_of_getElem? (i := 4) rfl) (e_sc (List.mem_of_getElem? (i := 5) rfl) (e_sc (List.mem_of_getElem? (i := 0) rfl) (e_sc (List.mem_of_getElem? (i := 6) rfl) e_sn)))))))
  · have h := h.2 c
    refine r_iload (kd191 rfl) rfl rfl ?_
    refine r_goto (kd191 rfl) ?_
    exact (b_Mod_isLaid_68 hd hk14 h).less (e_sc (List.mem_of_getElem? (i := 1) rfl) (e_sc (List.mem_of_getElem? (i := 2) rfl) (e_sc (List.mem_of_getElem? (i := 3) rfl) (e_sc (List.mem_of_getElem? (i := 4) rfl) (e_sc (List.mem_of_getElem? (i := 5) rfl) (e_sc (List.mem_of_getElem? (i := 0) rfl) (e_sc (List.mem_of_getElem? (i := 6) rfl) e_sn)))))))
def w_Mod_isLaid_98 (M : eM) (Q : Int32 → eM → Prop) : Prop := ((0 : Int32) = 0 ∨ (0 : Int32) = 1) ∧ Q (0 : Int32) M
theorem b_Mod_isLaid_98 {d : Nat} {M : eM} {Q : Int32 → eM → Prop} (hd : 1 ≤ d) (h : w_Mod_isLaid_98 M Q ) : e_E 191 d 0 0 98 [] [] M (e_QI Q) := by
  unfold w_Mod_isLaid_98 at h
  refine r_iconst (kd191 rfl) (y := 0) (by decide) rfl ?_
  exact r_zreturn (kd191 rfl) R191 h.1 h.2
def w_Mod_isLaid_178 (s0 : Int32) (M : eM) (Q : Int32 → eM → Prop) : Prop := (s0 = 0 ∨ s0 = 1) ∧ Q s0 M
theorem b_Mod_isLaid_178 {d : Nat} {s0 : Int32} {M : eM} {Q : Int32 → eM → Prop} (hd : 1 ≤ d) (h : w_Mod_isLaid_178 s0 M Q ) : e_E 191 d 0 0 178 [] [.int s0] M (e_QI Q) := by
  unfold w_Mod_isLaid_178 at h
  exact r_zreturn (kd191 rfl) R191 h.1 h.2
def w_Mod_isLaid_177 (M : eM) (Q : Int32 → eM → Prop) : Prop := w_Mod_isLaid_178 0 M Q
theorem b_Mod_isLaid_177 {d : Nat} {M : eM} {Q : Int32 → eM → Prop} (hd : 1 ≤ d) (h : w_Mod_isLaid_177 M Q ) : e_E 191 d 0 0 177 [] [] M (e_QI Q) := by
  unfold w_Mod_isLaid_177 at h
  refine r_iconst (kd191 rfl) (y := 0) (by decide) rfl ?_
  exact (b_Mod_isLaid_178 hd h).less e_sn
def w_Mod_isLaid_134 (l0 : Nat) (s0 : Int32) (s1 : Nat) (M : eM) (Q : Int32 → eM → Prop) : Prop := e_ob M s1 12 ∧ ∀ M12 : eM, M12 = e_si M s1 87 s0 → e_ob M12 l0 12 ∧ e_ob M12 l0 12 ∧ e_ai M12 (gr M12 l0 25) (gi M12 l0 87) ∧ e_ob M12 l0 12 ∧ ((gi M12 l0 37) < (gi M12 (gr M12 l0 25) (gi M12 l0 87).toNatClampNeg) → w_Mod_isLaid_177 M12 Q) ∧ (¬ (gi M12 l0 37) < (gi M12 (gr M12 l0 25) (gi M12 l0 87).toNatClampNeg) → e_ob M12 l0 12 ∧ e_ob M12 l0 12 ∧ e_ob M12 l0 12 ∧ e_ai M12 (gr M12 l0 25) (gi M12 l0 87) ∧ (300 < ((gi M12 l0 57) + (gi M12 (gr M12 l0 25) (gi M12 l0 87).toNatClampNeg)) → w_Mod_isLaid_177 M12 Q) ∧ (¬ 300 < ((gi M12 l0 57) + (gi M12 (gr M12 l0 25) (gi M12 l0 87).toNatClampNeg)) → w_Mod_isLaid_178 1 M12 Q))
theorem b_Mod_isLaid_134 {d : Nat} {l0 : Nat} {s0 : Int32} {s1 : Nat} {M : eM} {Q : Int32 → eM → Prop} (hd : 1 ≤ d) (h : w_Mod_isLaid_134 l0 s0 s1 M Q ) : e_E 191 d 0 0 134 [(0, .ref l0)] [.int s0, .ref s1] M (e_QI Q) := by
  unfold w_Mod_isLaid_134 at h
  obtain ⟨g, h⟩ := h
  have h := h _ rfl
  refine r_put0 (kd191 rfl) (by decide) rfl g rfl ?_
  refine r_aload_n (kd191 rfl) rfl rfl ?_
  obtain ⟨g, h⟩ := h
  refine r_get2 (kd191 rfl) (by decide) rfl g rfl ?_
  refine r_aload_n (kd191 rfl) rfl rfl ?_
  obtain ⟨g, h⟩ := h
  refine r_get0 (kd191 rfl) (by decide) rfl g rfl ?_
  obtain ⟨g, h⟩ := h
  refine r_iaload (kd191 rfl) g rfl ?_
  refine r_aload_n (kd191 rfl) rfl rfl ?_
  obtain ⟨g, h⟩ := h
  refine r_get0 (kd191 rfl) (by decide) rfl g rfl ?_
  refine r_icmp_gt (kd191 rfl) rfl (fun c => ?_) (fun c => ?_)
  · have h := h.1 c
    exact (b_Mod_isLaid_177 hd h).less e_sn
  · have h := h.2 c
    refine r_aload_n (kd191 rfl) rfl rfl ?_
    obtain ⟨g, h⟩ := h
    refine r_get0 (kd191 rfl) (by decide) rfl g rfl ?_
    refine r_aload_n (kd191 rfl) rfl rfl ?_
    obtain ⟨g, h⟩ := h
    refine r_get2 (kd191 rfl) (by decide) rfl g rfl ?_
    refine r_aload_n (kd191 rfl) rfl rfl ?_
    obtain ⟨g, h⟩ := h
    refine r_get0 (kd191 rfl) (by decide) rfl g rfl ?_
    obtain ⟨g, h⟩ := h
    refine r_iaload (kd191 rfl) g rfl ?_
    refine r_iadd (kd191 rfl) rfl ?_
    refine r_sipush (kd191 rfl) (y := 300) (by decide) rfl ?_
    refine r_icmp_gt (kd191 rfl) rfl (fun c => ?_) (fun c => ?_)
    · have h := h.1 c
      exact (b_Mod_isLaid_177 hd h).less e_sn
    · have h := h.2 c
      refine r_iconst (kd191 rfl) (y := 1) (by decide) rfl ?_
      refine r_goto (kd191 rfl) ?_
      exact (b_Mod_isLaid_178 hd h).less e_sn
def w_Mod_isLaid_100 (l0 : Nat) (l1 : Int32) (l2 : Int32) (l3 : Int32) (M : eM) (Q : Int32 → eM → Prop) : Prop := (¬ l3 = 47 → e_ob M l0 12 ∧ e_ob M l0 12 ∧ w_Mod_byteAt l0 l1 (l2 + 1) M (fun (v7 : Int32) (M6 : eM) => e_ob M6 l0 12 ∧ w_Mod_resolve l0 (gi M l0 86) v7 M6 (fun (v9 : Int32) (M8 : eM) => w_Mod_isLaid_134 l0 v9 l0 M8 Q))) ∧ (l3 = 47 → e_ob M l0 12 ∧ w_Mod_byteAt l0 l1 (l2 + 1) M (fun (v11 : Int32) (M10 : eM) => w_Mod_isLaid_134 l0 v11 l0 M10 Q))
theorem b_Mod_isLaid_100 {d : Nat} {l0 : Nat} {l1 : Int32} {l2 : Int32} {l3 : Int32} {M : eM} {Q : Int32 → eM → Prop} (hd : 1 ≤ d) (h : w_Mod_isLaid_100 l0 l1 l2 l3 M Q ) : e_E 191 d 0 0 100 [(0, .ref l0), (1, .int l1), (2, .int l2), (3, .int l3)] [] M (e_QI Q) := by
  unfold w_Mod_isLaid_100 at h
  refine r_aload_n (kd191 rfl) rfl rfl ?_
  refine r_iload_n (kd191 rfl) rfl rfl ?_
  refine r_bipush (kd191 rfl) (y := 47) (by decide) rfl ?_
  refine r_icmp_ne (kd191 rfl) rfl (fun c => ?_) (fun c => ?_)
  · have h := h.1 c
    refine r_aload_n (kd191 rfl) rfl rfl ?_
    refine r_aload_n (kd191 rfl) rfl rfl ?_
    obtain ⟨g, h⟩ := h
    refine r_get0 (kd191 rfl) (by decide) rfl g rfl ?_
    refine r_aload_n (kd191 rfl) rfl rfl ?_
    refine r_iload_n (kd191 rfl) rfl rfl ?_
    refine r_iload_n (kd191 rfl) rfl rfl ?_
    refine r_iconst (kd191 rfl) (y := 1) (by decide) rfl ?_
    refine r_iadd (kd191 rfl) rfl ?_
    obtain ⟨g, h⟩ := h
    refine r_callVI (d' := d - 1) (by omega) (kd191 rfl) (by decide) rfl rfl rfl rfl (Nat.le_of_ble_eq_true rfl) rfl L158 (Nat.le_of_ble_eq_true rfl) (Nat.le_of_ble_eq_true rfl) g (Nat.zero_le _) (Nat.zero_le _) rfl rfl rfl (b_Mod_byteAt (by omega) h) (fun x1 M1 h => ?_)
    obtain ⟨g, h⟩ := h
    refine r_callVI (d' := d - 1) (by omega) (kd191 rfl) (by decide) rfl rfl rfl rfl (Nat.le_of_ble_eq_true rfl) rfl L168 (Nat.le_of_ble_eq_true rfl) (Nat.le_of_ble_eq_true rfl) g (Nat.zero_le _) (Nat.zero_le _) rfl rfl rfl (b_Mod_resolve (by omega) h) (fun x1 M1 h => ?_)
    exact (b_Mod_isLaid_134 hd h).less (e_sc (List.mem_of_getElem? (i := 0) rfl) e_sn)
  · have h := h.2 c
    refine r_aload_n (kd191 rfl) rfl rfl ?_
    refine r_iload_n (kd191 rfl) rfl rfl ?_
    refine r_iload_n (kd191 rfl) rfl rfl ?_
    refine r_iconst (kd191 rfl) (y := 1) (by decide) rfl ?_
    refine r_iadd (kd191 rfl) rfl ?_
    obtain ⟨g, h⟩ := h
    refine r_callVI (d' := d - 1) (by omega) (kd191 rfl) (by decide) rfl rfl rfl rfl (Nat.le_of_ble_eq_true rfl) rfl L158 (Nat.le_of_ble_eq_true rfl) (Nat.le_of_ble_eq_true rfl) g (Nat.zero_le _) (Nat.zero_le _) rfl rfl rfl (b_Mod_byteAt (by omega) h) (fun x1 M1 h => ?_)
    refine r_goto (kd191 rfl) ?_
    exact (b_Mod_isLaid_134 hd h).less (e_sc (List.mem_of_getElem? (i := 0) rfl) e_sn)
def w_Mod_isLaid_14 : Nat → Nat → Int32 → Int32 → Int32 → Int32 → Int32 → Int32 → eM → (Int32 → eM → Prop) → Prop
  | 0, _, _, _, _, _, _, _, _, _ => False
  | n + 1, l0, l1, l2, l3, l4, l5, l6, M, Q => (8 ≤ l6 → e_ob M l0 12 ∧ (l4 < (gi M l0 35) → w_Mod_isLaid_98  M Q) ∧ (¬ l4 < (gi M l0 35) → (¬ l3 = 48 → w_Mod_isLaid_100 l0 l1 l2 l3 M Q) ∧ (l3 = 48 → (l5 = 1 → w_Mod_isLaid_100 l0 l1 l2 l3 M Q) ∧ (¬ l5 = 1 → w_Mod_isLaid_98  M Q)))) ∧ (¬ 8 ≤ l6 → e_ob M l0 12 ∧ w_Mod_profileOf l0 l1 l2 l6 M (fun (v4 : Int32) (M3 : eM) => (v4 ≤ 0 → w_Mod_isLaid_50 l0 l1 l2 l3 (l4 + v4) l6 v4 0 l5 M3 Q (fun l0 l1 l2 l3 l4 l5 l6 M => w_Mod_isLaid_14 n l0 l1 l2 l3 l4 l5 l6 M Q )) ∧ (¬ v4 ≤ 0 → w_Mod_isLaid_50 l0 l1 l2 l3 (l4 + v4) l6 v4 1 l5 M3 Q (fun l0 l1 l2 l3 l4 l5 l6 M => w_Mod_isLaid_14 n l0 l1 l2 l3 l4 l5 l6 M Q ))))
theorem b_Mod_isLaid_14 {d : Nat} {Q : Int32 → eM → Prop} (hd : 1 ≤ d) (n : Nat) : ∀ (l0 : Nat) (l1 : Int32) (l2 : Int32) (l3 : Int32) (l4 : Int32) (l5 : Int32) (l6 : Int32) (M : eM), w_Mod_isLaid_14 n l0 l1 l2 l3 l4 l5 l6 M Q → e_E 191 d 0 0 14 [(0, .ref l0), (1, .int l1), (2, .int l2), (3, .int l3), (4, .int l4), (5, .int l5), (6, .int l6)] [] M (e_QI Q) := by
  induction n with
  | zero => intro l0 l1 l2 l3 l4 l5 l6 M h; exact False.elim h
  | succ n ih =>
    intro l0 l1 l2 l3 l4 l5 l6 M h
    have hk14 := ih
    refine r_iload (kd191 rfl) rfl rfl ?_
    refine r_bipush (kd191 rfl) (y := 8) (by decide) rfl ?_
    refine r_icmp_ge (kd191 rfl) rfl (fun c => ?_) (fun c => ?_)
    · have h := h.1 c
      refine r_iload (kd191 rfl) rfl rfl ?_
      refine r_aload_n (kd191 rfl) rfl rfl ?_
      obtain ⟨g, h⟩ := h
      refine r_get0 (kd191 rfl) (by decide) rfl g rfl ?_
      refine r_icmp_lt (kd191 rfl) rfl (fun c => ?_) (fun c => ?_)
      · have h := h.1 c
        exact (b_Mod_isLaid_98 hd h).less e_sn
      · have h := h.2 c
        refine r_iload_n (kd191 rfl) rfl rfl ?_
        refine r_bipush (kd191 rfl) (y := 48) (by decide) rfl ?_
        refine r_icmp_ne (kd191 rfl) rfl (fun c => ?_) (fun c => ?_)
        · have h := h.1 c
          exact (b_Mod_isLaid_100 hd h).less (e_sc (List.mem_of_getElem? (i := 0) rfl) (e_sc (List.mem_of_getElem? (i := 1) rfl) (e_sc (List.mem_of_getElem? (i := 2) rfl) (e_sc (List.mem_of_getElem? (i := 3) rfl) e_sn))))
        · have h := h.2 c
          refine r_iload (kd191 rfl) rfl rfl ?_
          refine r_iconst (kd191 rfl) (y := 1) (by decide) rfl ?_
          refine r_icmp_eq (kd191 rfl) rfl (fun c => ?_) (fun c => ?_)
          · have h := h.1 c
            exact (b_Mod_isLaid_100 hd h).less (e_sc (List.mem_of_getElem? (i := 0) rfl) (e_sc (List.mem_of_getElem? (i := 1) rfl) (e_sc (List.mem_of_getElem? (i := 2) rfl) (e_sc (List.mem_of_getElem? (i := 3) rfl) e_sn))))
          · have h := h.2 c
            exact (b_Mod_isLaid_98 hd h).less e_sn
    · have h := h.2 c
      refine r_aload_n (kd191 rfl) rfl rfl ?_
      refine r_iload_n (kd191 rfl) rfl rfl ?_
      refine r_iload_n (kd191 rfl) rfl rfl ?_
      refine r_iload (kd191 rfl) rfl rfl ?_
      obtain ⟨g, h⟩ := h
      refine r_callVI (d' := d - 1) (by omega) (kd191 rfl) (by decide) rfl rfl rfl rfl (Nat.le_of_ble_eq_true rfl) rfl L189 (Nat.le_of_ble_eq_true rfl) (Nat.le_of_ble_eq_true rfl) g (Nat.zero_le _) (Nat.zero_le _) rfl rfl rfl (b_Mod_profileOf (by omega) h) (fun x1 M1 h => ?_)
      refine r_istore (kd191 rfl) L191 (by decide) rfl rfl ?_
      refine r_iload (kd191 rfl) rfl rfl ?_
      refine r_iload (kd191 rfl) rfl rfl ?_
      refine r_iadd (kd191 rfl) rfl ?_
      refine r_istore (kd191 rfl) L191 (by decide) rfl rfl ?_
      refine r_iload (kd191 rfl) rfl rfl ?_
      refine r_iload (kd191 rfl) rfl rfl ?_
      refine r_if_le (kd191 rfl) rfl (fun c => ?_) (fun c => ?_)
      · have h := h.1 c
        refine r_iconst (kd191 rfl) (y := 0) (by decide) rfl ?_
        exact (b_Mod_isLaid_50 hd hk14 h).less (e_sc (List.mem_of_getElem? (i := 2) rfl) (e_sc (List.mem_of_getElem? (i := 3) rfl) (e_sc (List.mem_of_getElem? (i := 4) rfl) (e_sc (List.mem_of_getElem? (i := 5) rfl) (e_sc (List.mem_of_getElem? (i := 0) rfl) (e_sc (List.mem_of_getElem? (i := 7) rfl) (e_sc (List.mem_of_getElem? (i := 1) rfl) e_sn)))))))
      · have h := h.2 c
        refine r_iconst (kd191 rfl) (y := 1) (by decide) rfl ?_
        refine r_goto (kd191 rfl) ?_
        exact (b_Mod_isLaid_50 hd hk14 h).less (e_sc (List.mem_of_getElem? (i := 2) rfl) (e_sc (List.mem_of_getElem? (i := 3) rfl) (e_sc (List.mem_of_getElem? (i := 4) rfl) (e_sc (List.mem_of_getElem? (i := 5) rfl) (e_sc (List.mem_of_getElem? (i := 0) rfl) (e_sc (List.mem_of_getElem? (i := 7) rfl) (e_sc (List.mem_of_getElem? (i := 1) rfl) e_sn)))))))
def w_Mod_isLaid (l0 : Nat) (l1 : Int32) (l2 : Int32) (l3 : Int32) (M : eM) (Q : Int32 → eM → Prop) : Prop := e_ob M l0 12 ∧ ∀ M1 : eM, M1 = e_si M l0 86 (-1) → ∃ n2 : Nat, w_Mod_isLaid_14 n2 l0 l1 l2 l3 0 0 0 M1 Q
theorem b_Mod_isLaid {d : Nat} {l0 : Nat} {l1 : Int32} {l2 : Int32} {l3 : Int32} {M : eM} {Q : Int32 → eM → Prop} (hd : 1 ≤ d) (h : w_Mod_isLaid l0 l1 l2 l3 M Q) : e_CI 191 d 0 0 [.ref l0, .int l1, .int l2, .int l3] M Q := by
  unfold w_Mod_isLaid at h
  show e_E 191 d 0 0 0 [(0, .ref l0), (1, .int l1), (2, .int l2), (3, .int l3)] [] M (e_QI Q)
  refine r_iconst (kd191 rfl) (y := 0) (by decide) rfl ?_
  refine r_istore (kd191 rfl) L191 (by decide) rfl rfl ?_
  refine r_iconst (kd191 rfl) (y := 0) (by decide) rfl ?_
  refine r_istore (kd191 rfl) L191 (by decide) rfl rfl ?_
  refine r_aload_n (kd191 rfl) rfl rfl ?_
  refine r_iconst (kd191 rfl) (y := (-1)) (by decide) rfl ?_
  obtain ⟨g, h⟩ := h
  have h := h _ rfl
  refine r_put0 (kd191 rfl) (by decide) rfl g rfl ?_
  refine r_iconst (kd191 rfl) (y := 0) (by decide) rfl ?_
  refine r_istore (kd191 rfl) L191 (by decide) rfl rfl ?_
  obtain ⟨n, h⟩ := h
  exact (b_Mod_isLaid_14 hd n _ _ _ _ _ _ _ _ h).less (e_sc (List.mem_of_getElem? (i := 3) rfl) (e_sc (List.mem_of_getElem? (i := 4) rfl) (e_sc (List.mem_of_getElem? (i := 5) rfl) (e_sc (List.mem_of_getElem? (i := 6) rfl) (e_sc (List.mem_of_getElem? (i := 2) rfl) (e_sc (List.mem_of_getElem? (i := 1) rfl) (e_sc (List.mem_of_getElem? (i := 0) rfl) e_sn)))))))
/-- TierMillModel.lay(I)V -/
theorem kd190 {pc : Nat} {q : eI} (h : e_d190.lookup pc = some q) : e_dec 190 pc = some q := h
theorem L190 : (e_m 190).2.2.1 = 8 := rfl
theorem R190 : (e_m 190).2.2.2.1 = none := rfl
set_option maxRecDepth 100000 in
def w_Mod_lay_61 (l0 : Nat) (l2 : Int32) (M : eM) (Q : eM → Prop) (k23 : Nat → Int32 → eM → Prop) : Prop := k23 l0 (l2 + (-1)) M
set_option maxRecDepth 100000 in
theorem b_Mod_lay_61 {d : Nat} {l0 : Nat} {l2 : Int32} {M : eM} {Q : eM → Prop} {k23 : Nat → Int32 → eM → Prop} (hd : 2 ≤ d) (hk23 : ∀ (l0 : Nat) (l2 : Int32) (M : eM), k23 l0 l2 M → e_E 190 d 0 0 23 [(0, .ref l0), (2, .int l2)] [] M (e_QV Q)) (h : w_Mod_lay_61 l0 l2 M Q k23) : e_E 190 d 0 0 61 [(0, .ref l0), (2, .int l2)] [] M (e_QV Q) := by
  unfold w_Mod_lay_61 at h
  refine r_iinc (kd190 rfl) rfl (y := (-1)) (by decide) L190 (by decide) rfl rfl ?_
  refine r_goto (kd190 rfl) ?_
  exact (hk23 _ _ _ h).less (e_sc (List.mem_of_getElem? (i := 1) rfl) (e_sc (List.mem_of_getElem? (i := 0) rfl) e_sn))
set_option maxRecDepth 100000 in
def w_Mod_lay_203 (l0 : Nat) (l2 : Int32) (l7 : Int32) (s0 : Int32) (s1 : Int32) (s2 : Nat) (M : eM) (Q : eM → Prop) (k23 : Nat → Int32 → eM → Prop) : Prop := e_ar M s2 20 s1 ∧ ∀ M13 : eM, M13 = e_si M s2 s1.toNatClampNeg s0 → e_ob M13 l0 12 ∧ e_ob M13 l0 12 ∧ e_ar M13 (gr M13 l0 59) 20 (l7 + 4) ∧ ∀ M14 : eM, M14 = e_si M13 (gr M13 l0 59) (l7 + 4).toNatClampNeg (gi M13 l0 87) → e_ob M14 l0 12 ∧ e_ob M14 l0 12 ∧ e_ai M14 (gr M14 l0 85) l2 ∧ e_ar M14 (gr M14 l0 59) 20 (l7 + 5) ∧ ∀ M15 : eM, M15 = e_si M14 (gr M14 l0 59) (l7 + 5).toNatClampNeg (gi M14 (gr M14 l0 85) l2.toNatClampNeg) → e_ob M15 l0 12 ∧ e_ob M15 l0 12 ∧ e_ob M15 l0 12 ∧ e_ai M15 (gr M15 l0 25) (gi M15 l0 87) ∧ e_ob M15 l0 12 ∧ ∀ M16 : eM, M16 = e_si M15 l0 57 ((gi M15 l0 57) + (gi M15 (gr M15 l0 25) (gi M15 l0 87).toNatClampNeg)) → e_ob M16 l0 12 ∧ e_ob M16 l0 12 ∧ e_ar M16 (gr M16 l0 83) 20 (l2 + 1) ∧ ∀ M17 : eM, M17 = e_si M16 (gr M16 l0 83) (l2 + 1).toNatClampNeg (gi M16 l0 87) → e_ob M17 l0 12 ∧ e_ar M17 (gr M17 l0 84) 20 (l2 + 1) ∧ ∀ M18 : eM, M18 = e_si M17 (gr M17 l0 84) (l2 + 1).toNatClampNeg 0 → e_ob M18 l0 12 ∧ e_ob M18 l0 12 ∧ e_ar M18 (gr M18 l0 85) 20 (l2 + 1) ∧ ∀ M19 : eM, M19 = e_si M18 (gr M18 l0 85) (l2 + 1).toNatClampNeg (gi M18 l0 58) → e_ob M19 l0 12 ∧ e_ob M19 l0 12 ∧ ∀ M20 : eM, M20 = e_si M19 l0 58 ((gi M19 l0 58) + 1) → k23 l0 (l2 + 1) M20
set_option maxRecDepth 100000 in
theorem b_Mod_lay_203 {d : Nat} {l0 : Nat} {l2 : Int32} {l7 : Int32} {s0 : Int32} {s1 : Int32} {s2 : Nat} {M : eM} {Q : eM → Prop} {k23 : Nat → Int32 → eM → Prop} (hd : 2 ≤ d) (hk23 : ∀ (l0 : Nat) (l2 : Int32) (M : eM), k23 l0 l2 M → e_E 190 d 0 0 23 [(0, .ref l0), (2, .int l2)] [] M (e_QV Q)) (h : w_Mod_lay_203 l0 l2 l7 s0 s1 s2 M Q k23) : e_E 190 d 0 0 203 [(0, .ref l0), (2, .int l2), (7, .int l7)] [.int s0, .int s1, .ref s2] M (e_QV Q) := by
  unfold w_Mod_lay_203 at h
  obtain ⟨g, h⟩ := h
  have h := h _ rfl
  refine r_iastore (kd190 rfl) g rfl ?_
  refine r_aload_n (kd190 rfl) rfl rfl ?_
  obtain ⟨g, h⟩ := h
  refine r_get2 (kd190 rfl) (by decide) rfl g rfl ?_
  refine r_iload (kd190 rfl) rfl rfl ?_
  refine r_iconst (kd190 rfl) (y := 4) (by decide) rfl ?_
  refine r_iadd (kd190 rfl) rfl ?_
  refine r_aload_n (kd190 rfl) rfl rfl ?_
  obtain ⟨g, h⟩ := h
  refine r_get0 (kd190 rfl) (by decide) rfl g rfl ?_
  obtain ⟨g, h⟩ := h
  have h := h _ rfl
  refine r_iastore (kd190 rfl) g rfl ?_
  refine r_aload_n (kd190 rfl) rfl rfl ?_
  obtain ⟨g, h⟩ := h
  refine r_get2 (kd190 rfl) (by decide) rfl g rfl ?_
  refine r_iload (kd190 rfl) rfl rfl ?_
  refine r_iconst (kd190 rfl) (y := 5) (by decide) rfl ?_
  refine r_iadd (kd190 rfl) rfl ?_
  refine r_aload_n (kd190 rfl) rfl rfl ?_
  obtain ⟨g, h⟩ := h
  refine r_get2 (kd190 rfl) (by decide) rfl g rfl ?_
  refine r_iload_n (kd190 rfl) rfl rfl ?_
  obtain ⟨g, h⟩ := h
  refine r_iaload (kd190 rfl) g rfl ?_
  obtain ⟨g, h⟩ := h
  have h := h _ rfl
  refine r_iastore (kd190 rfl) g rfl ?_
  refine r_aload_n (kd190 rfl) rfl rfl ?_
  refine r_dup (kd190 rfl) rfl rfl ?_
  obtain ⟨g, h⟩ := h
  refine r_get0 (kd190 rfl) (by decide) rfl g rfl ?_
  refine r_aload_n (kd190 rfl) rfl rfl ?_
  obtain ⟨g, h⟩ := h
  refine r_get2 (kd190 rfl) (by decide) rfl g rfl ?_
  refine r_aload_n (kd190 rfl) rfl rfl ?_
  obtain ⟨g, h⟩ := h
  refine r_get0 (kd190 rfl) (by decide) rfl g rfl ?_
  obtain ⟨g, h⟩ := h
  refine r_iaload (kd190 rfl) g rfl ?_
  refine r_iadd (kd190 rfl) rfl ?_
  obtain ⟨g, h⟩ := h
  have h := h _ rfl
  refine r_put0 (kd190 rfl) (by decide) rfl g rfl ?_
  refine r_iinc (kd190 rfl) rfl (y := 1) (by decide) L190 (by decide) rfl rfl ?_
  refine r_aload_n (kd190 rfl) rfl rfl ?_
  obtain ⟨g, h⟩ := h
  refine r_get2 (kd190 rfl) (by decide) rfl g rfl ?_
  refine r_iload_n (kd190 rfl) rfl rfl ?_
  refine r_aload_n (kd190 rfl) rfl rfl ?_
  obtain ⟨g, h⟩ := h
  refine r_get0 (kd190 rfl) (by decide) rfl g rfl ?_
  obtain ⟨g, h⟩ := h
  have h := h _ rfl
  refine r_iastore (kd190 rfl) g rfl ?_
  refine r_aload_n (kd190 rfl) rfl rfl ?_
  obtain ⟨g, h⟩ := h
  refine r_get2 (kd190 rfl) (by decide) rfl g rfl ?_
  refine r_iload_n (kd190 rfl) rfl rfl ?_
  refine r_iconst (kd190 rfl) (y := 0) (by decide) rfl ?_
  obtain ⟨g, h⟩ := h
  have h := h _ rfl
  refine r_iastore (kd190 rfl) g rfl ?_
  refine r_aload_n (kd190 rfl) rfl rfl ?_
  obtain ⟨g, h⟩ := h
  refine r_get2 (kd190 rfl) (by decide) rfl g rfl ?_
  refine r_iload_n (kd190 rfl) rfl rfl ?_
  refine r_aload_n (kd190 rfl) rfl rfl ?_
  obtain ⟨g, h⟩ := h
  refine r_get0 (kd190 rfl) (by decide) rfl g rfl ?_
  obtain ⟨g, h⟩ := h
  have h := h _ rfl
  refine r_iastore (kd190 rfl) g rfl ?_
  refine r_aload_n (kd190 rfl) rfl rfl ?_
  refine r_dup (kd190 rfl) rfl rfl ?_
  obtain ⟨g, h⟩ := h
  refine r_get0 (kd190 rfl) (by decide) rfl g rfl ?_
  refine r_iconst (kd190 rfl) (y := 1) (by decide) rfl ?_
  refine r_iadd (kd190 rfl) rfl ?_
  obtain ⟨g, h⟩ := h
  have h := h _ rfl
  refine r_put0 (kd190 rfl) (by decide) rfl g rfl ?_
  refine r_goto (kd190 rfl) ?_
  exact (hk23 _ _ _ h).less (e_sc (List.mem_of_getElem? (i := 1) rfl) (e_sc (List.mem_of_getElem? (i := 0) rfl) e_sn))
set_option maxRecDepth 100000 in
def w_Mod_lay_132 (l0 : Nat) (l2 : Int32) (l3 : Int32) (l4 : Int32) (l5 : Int32) (s0 : Int32) (M : eM) (Q : eM → Prop) (k23 : Nat → Int32 → eM → Prop) : Prop := (¬ s0 = 0 → e_ob M l0 12 ∧ e_ob M l0 12 ∧ e_ar M (gr M l0 59) 20 (6 * (gi M l0 58)) ∧ ∀ M10 : eM, M10 = e_si M (gr M l0 59) (6 * (gi M l0 58)).toNatClampNeg l2 → e_ob M10 l0 12 ∧ e_ar M10 (gr M10 l0 59) 20 ((6 * (gi M l0 58)) + 1) ∧ ∀ M11 : eM, M11 = e_si M10 (gr M10 l0 59) ((6 * (gi M l0 58)) + 1).toNatClampNeg l4 → e_ob M11 l0 12 ∧ e_ar M11 (gr M11 l0 59) 20 ((6 * (gi M l0 58)) + 2) ∧ ∀ M12 : eM, M12 = e_si M11 (gr M11 l0 59) ((6 * (gi M l0 58)) + 2).toNatClampNeg l3 → e_ob M12 l0 12 ∧ (¬ l5 = 48 → w_Mod_lay_203 l0 l2 (6 * (gi M l0 58)) (-1) ((6 * (gi M l0 58)) + 3) (gr M12 l0 59) M12 Q k23) ∧ (l5 = 48 → e_ob M12 l0 12 ∧ w_Mod_lay_203 l0 l2 (6 * (gi M l0 58)) (gi M12 l0 86) ((6 * (gi M l0 58)) + 3) (gr M12 l0 59) M12 Q k23)) ∧ (s0 = 0 → k23 l0 l2 M)
set_option maxRecDepth 100000 in
theorem b_Mod_lay_132 {d : Nat} {l0 : Nat} {l2 : Int32} {l3 : Int32} {l4 : Int32} {l5 : Int32} {s0 : Int32} {M : eM} {Q : eM → Prop} {k23 : Nat → Int32 → eM → Prop} (hd : 2 ≤ d) (hk23 : ∀ (l0 : Nat) (l2 : Int32) (M : eM), k23 l0 l2 M → e_E 190 d 0 0 23 [(0, .ref l0), (2, .int l2)] [] M (e_QV Q)) (h : w_Mod_lay_132 l0 l2 l3 l4 l5 s0 M Q k23) : e_E 190 d 0 0 132 [(0, .ref l0), (2, .int l2), (3, .int l3), (4, .int l4), (5, .int l5)] [.int s0] M (e_QV Q) := by
  unfold w_Mod_lay_132 at h
  refine r_istore (kd190 rfl) L190 (by decide) rfl rfl ?_
  refine r_iload (kd190 rfl) rfl rfl ?_
  refine r_if_ne (kd190 rfl) rfl (fun c => ?_) (fun c => ?_)
  · have h := h.1 c
    refine r_bipush (kd190 rfl) (y := 6) (by decide) rfl ?_
    refine r_aload_n (kd190 rfl) rfl rfl ?_
    obtain ⟨g, h⟩ := h
    refine r_get0 (kd190 rfl) (by decide) rfl g rfl ?_
    refine r_imul (kd190 rfl) rfl ?_
    refine r_istore (kd190 rfl) L190 (by decide) rfl rfl ?_
    refine r_aload_n (kd190 rfl) rfl rfl ?_
    obtain ⟨g, h⟩ := h
    refine r_get2 (kd190 rfl) (by decide) rfl g rfl ?_
    refine r_iload (kd190 rfl) rfl rfl ?_
    refine r_iload_n (kd190 rfl) rfl rfl ?_
    obtain ⟨g, h⟩ := h
    have h := h _ rfl
    refine r_iastore (kd190 rfl) g rfl ?_
    refine r_aload_n (kd190 rfl) rfl rfl ?_
    obtain ⟨g, h⟩ := h
    refine r_get2 (kd190 rfl) (by decide) rfl g rfl ?_
    refine r_iload (kd190 rfl) rfl rfl ?_
    refine r_iconst (kd190 rfl) (y := 1) (by decide) rfl ?_
    refine r_iadd (kd190 rfl) rfl ?_
    refine r_iload (kd190 rfl) rfl rfl ?_
    obtain ⟨g, h⟩ := h
    have h := h _ rfl
    refine r_iastore (kd190 rfl) g rfl ?_
    refine r_aload_n (kd190 rfl) rfl rfl ?_
    obtain ⟨g, h⟩ := h
    refine r_get2 (kd190 rfl) (by decide) rfl g rfl ?_
    refine r_iload (kd190 rfl) rfl rfl ?_
    refine r_iconst (kd190 rfl) (y := 2) (by decide) rfl ?_
    refine r_iadd (kd190 rfl) rfl ?_
    refine r_iload_n (kd190 rfl) rfl rfl ?_
    obtain ⟨g, h⟩ := h
    have h := h _ rfl
    refine r_iastore (kd190 rfl) g rfl ?_
    refine r_aload_n (kd190 rfl) rfl rfl ?_
    obtain ⟨g, h⟩ := h
    refine r_get2 (kd190 rfl) (by decide) rfl g rfl ?_
    refine r_iload (kd190 rfl) rfl rfl ?_
    refine r_iconst (kd190 rfl) (y := 3) (by decide) rfl ?_
    refine r_iadd (kd190 rfl) rfl ?_
    refine r_iload (kd190 rfl) rfl rfl ?_
    refine r_bipush (kd190 rfl) (y := 48) (by decide) rfl ?_
    refine r_icmp_ne (kd190 rfl) rfl (fun c => ?_) (fun c => ?_)
    · have h := h.1 c
      refine r_iconst (kd190 rfl) (y := (-1)) (by decide) rfl ?_
      exact (b_Mod_lay_203 hd hk23 h).less (e_sc (List.mem_of_getElem? (i := 2) rfl) (e_sc (List.mem_of_getElem? (i := 3) rfl) (e_sc (List.mem_of_getElem? (i := 0) rfl) e_sn)))
    · have h := h.2 c
      refine r_aload_n (kd190 rfl) rfl rfl ?_
      obtain ⟨g, h⟩ := h
      refine r_get0 (kd190 rfl) (by decide) rfl g rfl ?_
      refine r_goto (kd190 rfl) ?_
      exact (b_Mod_lay_203 hd hk23 h).less (e_sc (List.mem_of_getElem? (i := 2) rfl) (e_sc (List.mem_of_getElem? (i := 3) rfl) (e_sc (List.mem_of_getElem? (i := 0) rfl) e_sn)))
  · have h := h.2 c
    refine r_goto (kd190 rfl) ?_
    exact (hk23 _ _ _ h).less (e_sc (List.mem_of_getElem? (i := 1) rfl) (e_sc (List.mem_of_getElem? (i := 2) rfl) e_sn))
set_option maxRecDepth 100000 in
def w_Mod_lay_131 (l0 : Nat) (l2 : Int32) (l3 : Int32) (l4 : Int32) (l5 : Int32) (M : eM) (Q : eM → Prop) (k23 : Nat → Int32 → eM → Prop) : Prop := w_Mod_lay_132 l0 l2 l3 l4 l5 0 M Q k23
set_option maxRecDepth 100000 in
theorem b_Mod_lay_131 {d : Nat} {l0 : Nat} {l2 : Int32} {l3 : Int32} {l4 : Int32} {l5 : Int32} {M : eM} {Q : eM → Prop} {k23 : Nat → Int32 → eM → Prop} (hd : 2 ≤ d) (hk23 : ∀ (l0 : Nat) (l2 : Int32) (M : eM), k23 l0 l2 M → e_E 190 d 0 0 23 [(0, .ref l0), (2, .int l2)] [] M (e_QV Q)) (h : w_Mod_lay_131 l0 l2 l3 l4 l5 M Q k23) : e_E 190 d 0 0 131 [(0, .ref l0), (2, .int l2), (3, .int l3), (4, .int l4), (5, .int l5)] [] M (e_QV Q) := by
  unfold w_Mod_lay_131 at h
  refine r_iconst (kd190 rfl) (y := 0) (by decide) rfl ?_
  exact (b_Mod_lay_132 hd hk23 h).less (e_sc (List.mem_of_getElem? (i := 0) rfl) (e_sc (List.mem_of_getElem? (i := 1) rfl) (e_sc (List.mem_of_getElem? (i := 2) rfl) (e_sc (List.mem_of_getElem? (i := 3) rfl) (e_sc (List.mem_of_getElem? (i := 4) rfl) e_sn)))))
set_option maxRecDepth 100000 in
def w_Mod_lay_115 (l0 : Nat) (l2 : Int32) (l3 : Int32) (l4 : Int32) (l5 : Int32) (M : eM) (Q : eM → Prop) (k23 : Nat → Int32 → eM → Prop) : Prop := e_ob M l0 12 ∧ w_Mod_isLaid l0 l4 l3 l5 M (fun (v9 : Int32) (M8 : eM) => (v9 = 0 → w_Mod_lay_131 l0 l2 l3 l4 l5 M8 Q k23) ∧ (¬ v9 = 0 → w_Mod_lay_132 l0 l2 l3 l4 l5 1 M8 Q k23))
set_option maxRecDepth 100000 in
theorem b_Mod_lay_115 {d : Nat} {l0 : Nat} {l2 : Int32} {l3 : Int32} {l4 : Int32} {l5 : Int32} {M : eM} {Q : eM → Prop} {k23 : Nat → Int32 → eM → Prop} (hd : 2 ≤ d) (hk23 : ∀ (l0 : Nat) (l2 : Int32) (M : eM), k23 l0 l2 M → e_E 190 d 0 0 23 [(0, .ref l0), (2, .int l2)] [] M (e_QV Q)) (h : w_Mod_lay_115 l0 l2 l3 l4 l5 M Q k23) : e_E 190 d 0 0 115 [(0, .ref l0), (2, .int l2), (3, .int l3), (4, .int l4), (5, .int l5)] [] M (e_QV Q) := by
  unfold w_Mod_lay_115 at h
  refine r_aload_n (kd190 rfl) rfl rfl ?_
  refine r_iload (kd190 rfl) rfl rfl ?_
  refine r_iload_n (kd190 rfl) rfl rfl ?_
  refine r_iload (kd190 rfl) rfl rfl ?_
  obtain ⟨g, h⟩ := h
  refine r_callVI (d' := d - 1) (by omega) (kd190 rfl) (by decide) rfl rfl rfl rfl (Nat.le_of_ble_eq_true rfl) rfl L191 (Nat.le_of_ble_eq_true rfl) (Nat.le_of_ble_eq_true rfl) g (Nat.zero_le _) (Nat.zero_le _) rfl rfl rfl (b_Mod_isLaid (by omega) h) (fun x1 M1 h => ?_)
  refine r_if_eq (kd190 rfl) rfl (fun c => ?_) (fun c => ?_)
  · have h := h.1 c
    exact (b_Mod_lay_131 hd hk23 h).less (e_sc (List.mem_of_getElem? (i := 0) rfl) (e_sc (List.mem_of_getElem? (i := 1) rfl) (e_sc (List.mem_of_getElem? (i := 2) rfl) (e_sc (List.mem_of_getElem? (i := 3) rfl) (e_sc (List.mem_of_getElem? (i := 4) rfl) e_sn)))))
  · have h := h.2 c
    refine r_iconst (kd190 rfl) (y := 1) (by decide) rfl ?_
    refine r_goto (kd190 rfl) ?_
    exact (b_Mod_lay_132 hd hk23 h).less (e_sc (List.mem_of_getElem? (i := 0) rfl) (e_sc (List.mem_of_getElem? (i := 1) rfl) (e_sc (List.mem_of_getElem? (i := 2) rfl) (e_sc (List.mem_of_getElem? (i := 3) rfl) (e_sc (List.mem_of_getElem? (i := 4) rfl) e_sn)))))
set_option maxRecDepth 100000 in
def w_Mod_lay_23 : Nat → Nat → Int32 → eM → (eM → Prop) → Prop
  | 0, _, _, _, _ => False
  | n + 1, l0, l2, M, Q => (l2 < 0 → Q M) ∧ (¬ l2 < 0 → e_ob M l0 12 ∧ e_ai M (gr M l0 84) l2 ∧ e_ob M l0 12 ∧ e_ai M (gr M l0 83) l2 ∧ e_ob M l0 12 ∧ e_ai M (gr M l0 25) (gi M (gr M l0 83) l2.toNatClampNeg) ∧ ((gi M (gr M l0 84) l2.toNatClampNeg) = (gi M (gr M l0 25) (gi M (gr M l0 83) l2.toNatClampNeg).toNatClampNeg) → w_Mod_lay_61 l0 l2 M Q (fun l0 l2 M => w_Mod_lay_23 n l0 l2 M Q )) ∧ (¬ (gi M (gr M l0 84) l2.toNatClampNeg) = (gi M (gr M l0 25) (gi M (gr M l0 83) l2.toNatClampNeg).toNatClampNeg) → e_ob M l0 12 ∧ (l2 < (gi M l0 36) → e_ob M l0 12 ∧ e_ai M (gr M l0 84) l2 ∧ e_ar M (gr M l0 84) 20 l2 ∧ ∀ M5 : eM, M5 = e_si M (gr M l0 84) l2.toNatClampNeg ((gi M (gr M l0 84) l2.toNatClampNeg) + 1) → e_ob M5 l0 12 ∧ w_Mod_byteAt l0 (gi M (gr M l0 83) l2.toNatClampNeg) (gi M (gr M l0 84) l2.toNatClampNeg) M5 (fun (v7 : Int32) (M6 : eM) => e_ob M6 l0 12 ∧ e_ar M6 (gr M6 l0 27) 22 ((120 * (gi M (gr M l0 83) l2.toNatClampNeg)) + (gi M (gr M l0 84) l2.toNatClampNeg)) ∧ ((gi M6 (gr M6 l0 27) ((120 * (gi M (gr M l0 83) l2.toNatClampNeg)) + (gi M (gr M l0 84) l2.toNatClampNeg)).toNatClampNeg) = 0 → w_Mod_lay_131 l0 l2 (gi M (gr M l0 84) l2.toNatClampNeg) (gi M (gr M l0 83) l2.toNatClampNeg) v7 M6 Q (fun l0 l2 M => w_Mod_lay_23 n l0 l2 M Q )) ∧ (¬ (gi M6 (gr M6 l0 27) ((120 * (gi M (gr M l0 83) l2.toNatClampNeg)) + (gi M (gr M l0 84) l2.toNatClampNeg)).toNatClampNeg) = 0 → (v7 = 47 → w_Mod_lay_115 l0 l2 (gi M (gr M l0 84) l2.toNatClampNeg) (gi M (gr M l0 83) l2.toNatClampNeg) v7 M6 Q (fun l0 l2 M => w_Mod_lay_23 n l0 l2 M Q )) ∧ (¬ v7 = 47 → (¬ v7 = 48 → w_Mod_lay_131 l0 l2 (gi M (gr M l0 84) l2.toNatClampNeg) (gi M (gr M l0 83) l2.toNatClampNeg) v7 M6 Q (fun l0 l2 M => w_Mod_lay_23 n l0 l2 M Q )) ∧ (v7 = 48 → w_Mod_lay_115 l0 l2 (gi M (gr M l0 84) l2.toNatClampNeg) (gi M (gr M l0 83) l2.toNatClampNeg) v7 M6 Q (fun l0 l2 M => w_Mod_lay_23 n l0 l2 M Q )))))) ∧ (¬ l2 < (gi M l0 36) → w_Mod_lay_61 l0 l2 M Q (fun l0 l2 M => w_Mod_lay_23 n l0 l2 M Q ))))
set_option maxRecDepth 100000 in
theorem b_Mod_lay_23 {d : Nat} {Q : eM → Prop} (hd : 2 ≤ d) (n : Nat) : ∀ (l0 : Nat) (l2 : Int32) (M : eM), w_Mod_lay_23 n l0 l2 M Q → e_E 190 d 0 0 23 [(0, .ref l0), (2, .int l2)] [] M (e_QV Q) := by
  induction n with
  | zero => intro l0 l2 M h; exact False.elim h
  | succ n ih =>
    intro l0 l2 M h
    have hk23 := ih
    refine r_iload_n (kd190 rfl) rfl rfl ?_
    refine r_if_lt (kd190 rfl) rfl (fun c => ?_) (fun c => ?_)
    · have h := h.1 c
      exact r_return (kd190 rfl) R190 h
    · have h := h.2 c
      refine r_aload_n (kd190 rfl) rfl rfl ?_
      obtain ⟨g, h⟩ := h
      refine r_get2 (kd190 rfl) (by decide) rfl g rfl ?_
      refine r_iload_n (kd190 rfl) rfl rfl ?_
      obtain ⟨g, h⟩ := h
      refine r_iaload (kd190 rfl) g rfl ?_
      refine r_istore_n (kd190 rfl) L190 (by decide) rfl rfl ?_
      refine r_aload_n (kd190 rfl) rfl rfl ?_
      obtain ⟨g, h⟩ := h
      refine r_get2 (kd190 rfl) (by decide) rfl g rfl ?_
      refine r_iload_n (kd190 rfl) rfl rfl ?_
      obtain ⟨g, h⟩ := h
      refine r_iaload (kd190 rfl) g rfl ?_
      refine r_istore (kd190 rfl) L190 (by decide) rfl rfl ?_
      refine r_iload_n (kd190 rfl) rfl rfl ?_
      refine r_aload_n (kd190 rfl) rfl rfl ?_
      obtain ⟨g, h⟩ := h
      refine r_get2 (kd190 rfl) (by decide) rfl g rfl ?_
      refine r_iload (kd190 rfl) rfl rfl ?_
      obtain ⟨g, h⟩ := h
      refine r_iaload (kd190 rfl) g rfl ?_
      refine r_icmp_eq (kd190 rfl) rfl (fun c => ?_) (fun c => ?_)
      · have h := h.1 c
        exact (b_Mod_lay_61 hd hk23 h).less (e_sc (List.mem_of_getElem? (i := 2) rfl) (e_sc (List.mem_of_getElem? (i := 3) rfl) e_sn))
      · have h := h.2 c
        refine r_iload_n (kd190 rfl) rfl rfl ?_
        refine r_aload_n (kd190 rfl) rfl rfl ?_
        obtain ⟨g, h⟩ := h
        refine r_get0 (kd190 rfl) (by decide) rfl g rfl ?_
        refine r_icmp_lt (kd190 rfl) rfl (fun c => ?_) (fun c => ?_)
        · have h := h.1 c
          refine r_aload_n (kd190 rfl) rfl rfl ?_
          obtain ⟨g, h⟩ := h
          refine r_get2 (kd190 rfl) (by decide) rfl g rfl ?_
          refine r_iload_n (kd190 rfl) rfl rfl ?_
          refine r_dup2 (kd190 rfl) rfl rfl rfl ?_
          obtain ⟨g, h⟩ := h
          refine r_iaload (kd190 rfl) g rfl ?_
          refine r_iconst (kd190 rfl) (y := 1) (by decide) rfl ?_
          refine r_iadd (kd190 rfl) rfl ?_
          obtain ⟨g, h⟩ := h
          have h := h _ rfl
          refine r_iastore (kd190 rfl) g rfl ?_
          refine r_aload_n (kd190 rfl) rfl rfl ?_
          refine r_iload (kd190 rfl) rfl rfl ?_
          refine r_iload_n (kd190 rfl) rfl rfl ?_
          obtain ⟨g, h⟩ := h
          refine r_callVI (d' := d - 1) (by omega) (kd190 rfl) (by decide) rfl rfl rfl rfl (Nat.le_of_ble_eq_true rfl) rfl L158 (Nat.le_of_ble_eq_true rfl) (Nat.le_of_ble_eq_true rfl) g (Nat.zero_le _) (Nat.zero_le _) rfl rfl rfl (b_Mod_byteAt (by omega) h) (fun x1 M1 h => ?_)
          refine r_istore (kd190 rfl) L190 (by decide) rfl rfl ?_
          refine r_aload_n (kd190 rfl) rfl rfl ?_
          obtain ⟨g, h⟩ := h
          refine r_get2 (kd190 rfl) (by decide) rfl g rfl ?_
          refine r_bipush (kd190 rfl) (y := 120) (by decide) rfl ?_
          refine r_iload (kd190 rfl) rfl rfl ?_
          refine r_imul (kd190 rfl) rfl ?_
          refine r_iload_n (kd190 rfl) rfl rfl ?_
          refine r_iadd (kd190 rfl) rfl ?_
          obtain ⟨g, h⟩ := h
          refine r_baload (kd190 rfl) g rfl ?_
          refine r_if_eq (kd190 rfl) rfl (fun c => ?_) (fun c => ?_)
          · have h := h.1 c
            exact (b_Mod_lay_131 hd hk23 h).less (e_sc (List.mem_of_getElem? (i := 3) rfl) (e_sc (List.mem_of_getElem? (i := 4) rfl) (e_sc (List.mem_of_getElem? (i := 2) rfl) (e_sc (List.mem_of_getElem? (i := 1) rfl) (e_sc (List.mem_of_getElem? (i := 0) rfl) e_sn)))))
          · have h := h.2 c
            refine r_iload (kd190 rfl) rfl rfl ?_
            refine r_bipush (kd190 rfl) (y := 47) (by decide) rfl ?_
            refine r_icmp_eq (kd190 rfl) rfl (fun c => ?_) (fun c => ?_)
            · have h := h.1 c
              exact (b_Mod_lay_115 hd hk23 h).less (e_sc (List.mem_of_getElem? (i := 3) rfl) (e_sc (List.mem_of_getElem? (i := 4) rfl) (e_sc (List.mem_of_getElem? (i := 2) rfl) (e_sc (List.mem_of_getElem? (i := 1) rfl) (e_sc (List.mem_of_getElem? (i := 0) rfl) e_sn)))))
            · have h := h.2 c
              refine r_iload (kd190 rfl) rfl rfl ?_
              refine r_bipush (kd190 rfl) (y := 48) (by decide) rfl ?_
              refine r_icmp_ne (kd190 rfl) rfl (fun c => ?_) (fun c => ?_)
              · have h := h.1 c
                exact (b_Mod_lay_131 hd hk23 h).less (e_sc (List.mem_of_getElem? (i := 3) rfl) (e_sc (List.mem_of_getElem? (i := 4) rfl) (e_sc (List.mem_of_getElem? (i := 2) rfl) (e_sc (List.mem_of_getElem? (i := 1) rfl) (e_sc (List.mem_of_getElem? (i := 0) rfl) e_sn)))))
              · have h := h.2 c
                exact (b_Mod_lay_115 hd hk23 h).less (e_sc (List.mem_of_getElem? (i := 3) rfl) (e_sc (List.mem_of_getElem? (i := 4) rfl) (e_sc (List.mem_of_getElem? (i := 2) rfl) (e_sc (List.mem_of_getElem? (i := 1) rfl) (e_sc (List.mem_of_getElem? (i := 0) rfl) e_sn)))))
        · have h := h.2 c
          exact (b_Mod_lay_61 hd hk23 h).less (e_sc (List.mem_of_getElem? (i := 2) rfl) (e_sc (List.mem_of_getElem? (i := 3) rfl) e_sn))
set_option maxRecDepth 100000 in
def w_Mod_lay (l0 : Nat) (l1 : Int32) (M : eM) (Q : eM → Prop) : Prop := e_ob M l0 12 ∧ e_ar M (gr M l0 83) 20 0 ∧ ∀ M1 : eM, M1 = e_si M (gr M l0 83) (0 : Int32).toNatClampNeg l1 → e_ob M1 l0 12 ∧ e_ar M1 (gr M1 l0 84) 20 0 ∧ ∀ M2 : eM, M2 = e_si M1 (gr M1 l0 84) (0 : Int32).toNatClampNeg 0 → e_ob M2 l0 12 ∧ e_ar M2 (gr M2 l0 85) 20 0 ∧ ∀ M3 : eM, M3 = e_si M2 (gr M2 l0 85) (0 : Int32).toNatClampNeg (-1) → ∃ n4 : Nat, w_Mod_lay_23 n4 l0 0 M3 Q
set_option maxRecDepth 100000 in
theorem b_Mod_lay {d : Nat} {l0 : Nat} {l1 : Int32} {M : eM} {Q : eM → Prop} (hd : 2 ≤ d) (h : w_Mod_lay l0 l1 M Q) : e_CV 190 d 0 0 [.ref l0, .int l1] M Q := by
  unfold w_Mod_lay at h
  show e_E 190 d 0 0 0 [(0, .ref l0), (1, .int l1)] [] M (e_QV Q)
  refine r_iconst (kd190 rfl) (y := 0) (by decide) rfl ?_
  refine r_istore_n (kd190 rfl) L190 (by decide) rfl rfl ?_
  refine r_aload_n (kd190 rfl) rfl rfl ?_
  obtain ⟨g, h⟩ := h
  refine r_get2 (kd190 rfl) (by decide) rfl g rfl ?_
  refine r_iconst (kd190 rfl) (y := 0) (by decide) rfl ?_
  refine r_iload_n (kd190 rfl) rfl rfl ?_
  obtain ⟨g, h⟩ := h
  have h := h _ rfl
  refine r_iastore (kd190 rfl) g rfl ?_
  refine r_aload_n (kd190 rfl) rfl rfl ?_
  obtain ⟨g, h⟩ := h
  refine r_get2 (kd190 rfl) (by decide) rfl g rfl ?_
  refine r_iconst (kd190 rfl) (y := 0) (by decide) rfl ?_
  refine r_iconst (kd190 rfl) (y := 0) (by decide) rfl ?_
  obtain ⟨g, h⟩ := h
  have h := h _ rfl
  refine r_iastore (kd190 rfl) g rfl ?_
  refine r_aload_n (kd190 rfl) rfl rfl ?_
  obtain ⟨g, h⟩ := h
  refine r_get2 (kd190 rfl) (by decide) rfl g rfl ?_
  refine r_iconst (kd190 rfl) (y := 0) (by decide) rfl ?_
  refine r_iconst (kd190 rfl) (y := (-1)) (by decide) rfl ?_
  obtain ⟨g, h⟩ := h
  have h := h _ rfl
  refine r_iastore (kd190 rfl) g rfl ?_
  obtain ⟨n, h⟩ := h
  exact (b_Mod_lay_23 hd n _ _ _ h).less (e_sc (List.mem_of_getElem? (i := 1) rfl) (e_sc (List.mem_of_getElem? (i := 0) rfl) e_sn))
/-- TierMillModel.invoke(I)V -/
theorem kd188 {pc : Nat} {q : eI} (h : e_d188.lookup pc = some q) : e_dec 188 pc = some q := h
theorem L188 : (e_m 188).2.2.1 = 2 := rfl
theorem R188 : (e_m 188).2.2.2.1 = none := rfl
def w_Mod_invoke_161 (l0 : Nat) (l1 : Int32) (s0 : Int32) (s1 : Int32) (s2 : Nat) (M : eM) (Q : eM → Prop) : Prop := e_ob M l0 12 ∧ e_ai M (gr M l0 50) l1 ∧ e_ob M s2 12 ∧ w_Mod_newFrame s2 s1 s0 (gi M (gr M l0 50) l1.toNatClampNeg) (-1) M (fun (M10 : eM) => Q M10)
theorem b_Mod_invoke_161 {d : Nat} {l0 : Nat} {l1 : Int32} {s0 : Int32} {s1 : Int32} {s2 : Nat} {M : eM} {Q : eM → Prop} (hd : 3 ≤ d) (h : w_Mod_invoke_161 l0 l1 s0 s1 s2 M Q ) : e_E 188 d 0 0 161 [(0, .ref l0), (1, .int l1)] [.int s0, .int s1, .ref s2] M (e_QV Q) := by
  unfold w_Mod_invoke_161 at h
  refine r_aload_n (kd188 rfl) rfl rfl ?_
  obtain ⟨g, h⟩ := h
  refine r_get2 (kd188 rfl) (by decide) rfl g rfl ?_
  refine r_iload_n (kd188 rfl) rfl rfl ?_
  obtain ⟨g, h⟩ := h
  refine r_iaload (kd188 rfl) g rfl ?_
  refine r_iconst (kd188 rfl) (y := (-1)) (by decide) rfl ?_
  obtain ⟨g, h⟩ := h
  refine r_callVV (d' := d - 1) (by omega) (kd188 rfl) (by decide) rfl rfl rfl rfl (Nat.le_of_ble_eq_true rfl) rfl L186 (Nat.le_of_ble_eq_true rfl) (Nat.le_of_ble_eq_true rfl) g (Nat.zero_le _) (Nat.zero_le _) rfl rfl rfl (b_Mod_newFrame (by omega) h) (fun M1 h => ?_)
  exact r_return (kd188 rfl) R188 h
def w_Mod_invoke_144 (l0 : Nat) (l1 : Int32) (M : eM) (Q : eM → Prop) : Prop := e_ob M l0 12 ∧ e_ai M (gr M l0 50) l1 ∧ (¬ (gi M (gr M l0 50) l1.toNatClampNeg) = (-1) → w_Mod_invoke_161 l0 l1 1 l1 l0 M Q) ∧ ((gi M (gr M l0 50) l1.toNatClampNeg) = (-1) → w_Mod_invoke_161 l0 l1 0 l1 l0 M Q)
theorem b_Mod_invoke_144 {d : Nat} {l0 : Nat} {l1 : Int32} {M : eM} {Q : eM → Prop} (hd : 3 ≤ d) (h : w_Mod_invoke_144 l0 l1 M Q ) : e_E 188 d 0 0 144 [(0, .ref l0), (1, .int l1)] [] M (e_QV Q) := by
  unfold w_Mod_invoke_144 at h
  refine r_aload_n (kd188 rfl) rfl rfl ?_
  refine r_iload_n (kd188 rfl) rfl rfl ?_
  refine r_aload_n (kd188 rfl) rfl rfl ?_
  obtain ⟨g, h⟩ := h
  refine r_get2 (kd188 rfl) (by decide) rfl g rfl ?_
  refine r_iload_n (kd188 rfl) rfl rfl ?_
  obtain ⟨g, h⟩ := h
  refine r_iaload (kd188 rfl) g rfl ?_
  refine r_iconst (kd188 rfl) (y := (-1)) (by decide) rfl ?_
  refine r_icmp_ne (kd188 rfl) rfl (fun c => ?_) (fun c => ?_)
  · have h := h.1 c
    refine r_iconst (kd188 rfl) (y := 1) (by decide) rfl ?_
    exact (b_Mod_invoke_161 hd h).less (e_sc (List.mem_of_getElem? (i := 0) rfl) (e_sc (List.mem_of_getElem? (i := 1) rfl) e_sn))
  · have h := h.2 c
    refine r_iconst (kd188 rfl) (y := 0) (by decide) rfl ?_
    refine r_goto (kd188 rfl) ?_
    exact (b_Mod_invoke_161 hd h).less (e_sc (List.mem_of_getElem? (i := 0) rfl) (e_sc (List.mem_of_getElem? (i := 1) rfl) e_sn))
def w_Mod_invoke (l0 : Nat) (l1 : Int32) (M : eM) (Q : eM → Prop) : Prop := e_ob M l0 12 ∧ e_ai M (gr M l0 49) l1 ∧ e_ar M (gr M l0 49) 20 l1 ∧ ∀ M1 : eM, M1 = e_si M (gr M l0 49) l1.toNatClampNeg ((gi M (gr M l0 49) l1.toNatClampNeg) + 1) → e_ob M1 l0 12 ∧ e_ai M1 (gr M1 l0 49) l1 ∧ e_ob M1 l0 12 ∧ ((gi M1 (gr M1 l0 49) l1.toNatClampNeg) < (gi M1 l0 34) → w_Mod_invoke_144 l0 l1 M1 Q) ∧ (¬ (gi M1 (gr M1 l0 49) l1.toNatClampNeg) < (gi M1 l0 34) → e_ob M1 l0 12 ∧ e_ai M1 (gr M1 l0 50) l1 ∧ (¬ (gi M1 (gr M1 l0 50) l1.toNatClampNeg) = (-1) → w_Mod_invoke_144 l0 l1 M1 Q) ∧ ((gi M1 (gr M1 l0 50) l1.toNatClampNeg) = (-1) → e_ob M1 l0 12 ∧ (30 ≤ (gi M1 l0 46) → w_Mod_invoke_144 l0 l1 M1 Q) ∧ (¬ 30 ≤ (gi M1 l0 46) → e_ob M1 l0 12 ∧ e_ob M1 l0 12 ∧ e_ar M1 (gr M1 l0 50) 20 l1 ∧ ∀ M2 : eM, M2 = e_si M1 (gr M1 l0 50) l1.toNatClampNeg (gi M1 l0 54) → e_ob M2 l0 12 ∧ e_ob M2 l0 12 ∧ e_ob M2 l0 12 ∧ e_ar M2 (gr M2 l0 55) 20 (gi M2 l0 54) ∧ ∀ M3 : eM, M3 = e_si M2 (gr M2 l0 55) (gi M2 l0 54).toNatClampNeg (gi M2 l0 58) → e_ob M3 l0 12 ∧ ∀ M4 : eM, M4 = e_si M3 l0 57 0 → e_ob M4 l0 12 ∧ w_Mod_lay l0 l1 M4 (fun (M5 : eM) => e_ob M5 l0 12 ∧ e_ob M5 l0 12 ∧ e_ob M5 l0 12 ∧ e_ob M5 l0 12 ∧ e_ob M5 l0 12 ∧ e_ai M5 (gr M5 l0 55) (gi M5 l0 54) ∧ e_ar M5 (gr M5 l0 56) 20 (gi M5 l0 54) ∧ ∀ M6 : eM, M6 = e_si M5 (gr M5 l0 56) (gi M5 l0 54).toNatClampNeg ((gi M5 l0 58) - (gi M5 (gr M5 l0 55) (gi M5 l0 54).toNatClampNeg)) → e_ob M6 l0 12 ∧ e_ob M6 l0 12 ∧ e_ai M6 (gr M6 l0 56) (gi M6 l0 54) ∧ e_ob M6 l0 12 ∧ e_ai M6 (gr M6 l0 25) l1 ∧ e_ob M6 l0 12 ∧ e_ob M6 l0 12 ∧ w_Mod_note l0 1 l1 (gi M6 (gr M6 l0 56) (gi M6 l0 54).toNatClampNeg) ((gi M6 (gr M6 l0 25) l1.toNatClampNeg) + (gi M6 l0 57)) M6 (fun (M7 : eM) => e_ob M7 l0 12 ∧ e_ob M7 l0 12 ∧ ∀ M8 : eM, M8 = e_si M7 l0 54 ((gi M7 l0 54) + 1) → e_ob M8 l0 12 ∧ e_ob M8 l0 12 ∧ ∀ M9 : eM, M9 = e_si M8 l0 46 ((gi M8 l0 46) + 1) → w_Mod_invoke_144 l0 l1 M9 Q)))))
theorem b_Mod_invoke {d : Nat} {l0 : Nat} {l1 : Int32} {M : eM} {Q : eM → Prop} (hd : 3 ≤ d) (h : w_Mod_invoke l0 l1 M Q) : e_CV 188 d 0 0 [.ref l0, .int l1] M Q := by
  unfold w_Mod_invoke at h
  show e_E 188 d 0 0 0 [(0, .ref l0), (1, .int l1)] [] M (e_QV Q)
  refine r_aload_n (kd188 rfl) rfl rfl ?_
  obtain ⟨g, h⟩ := h
  refine r_get2 (kd188 rfl) (by decide) rfl g rfl ?_
  refine r_iload_n (kd188 rfl) rfl rfl ?_
  refine r_dup2 (kd188 rfl) rfl rfl rfl ?_
  obtain ⟨g, h⟩ := h
  refine r_iaload (kd188 rfl) g rfl ?_
  refine r_iconst (kd188 rfl) (y := 1) (by decide) rfl ?_
  refine r_iadd (kd188 rfl) rfl ?_
  obtain ⟨g, h⟩ := h
  have h := h _ rfl
  refine r_iastore (kd188 rfl) g rfl ?_
  refine r_aload_n (kd188 rfl) rfl rfl ?_
  obtain ⟨g, h⟩ := h
  refine r_get2 (kd188 rfl) (by decide) rfl g rfl ?_
  refine r_iload_n (kd188 rfl) rfl rfl ?_
  obtain ⟨g, h⟩ := h
  refine r_iaload (kd188 rfl) g rfl ?_
  refine r_aload_n (kd188 rfl) rfl rfl ?_
  obtain ⟨g, h⟩ := h
  refine r_get0 (kd188 rfl) (by decide) rfl g rfl ?_
  refine r_icmp_lt (kd188 rfl) rfl (fun c => ?_) (fun c => ?_)
  · have h := h.1 c
    exact (b_Mod_invoke_144 hd h).less (e_sc (List.mem_of_getElem? (i := 0) rfl) (e_sc (List.mem_of_getElem? (i := 1) rfl) e_sn))
  · have h := h.2 c
    refine r_aload_n (kd188 rfl) rfl rfl ?_
    obtain ⟨g, h⟩ := h
    refine r_get2 (kd188 rfl) (by decide) rfl g rfl ?_
    refine r_iload_n (kd188 rfl) rfl rfl ?_
    obtain ⟨g, h⟩ := h
    refine r_iaload (kd188 rfl) g rfl ?_
    refine r_iconst (kd188 rfl) (y := (-1)) (by decide) rfl ?_
    refine r_icmp_ne (kd188 rfl) rfl (fun c => ?_) (fun c => ?_)
    · have h := h.1 c
      exact (b_Mod_invoke_144 hd h).less (e_sc (List.mem_of_getElem? (i := 0) rfl) (e_sc (List.mem_of_getElem? (i := 1) rfl) e_sn))
    · have h := h.2 c
      refine r_aload_n (kd188 rfl) rfl rfl ?_
      obtain ⟨g, h⟩ := h
      refine r_get0 (kd188 rfl) (by decide) rfl g rfl ?_
      refine r_bipush (kd188 rfl) (y := 30) (by decide) rfl ?_
      refine r_icmp_ge (kd188 rfl) rfl (fun c => ?_) (fun c => ?_)
      · have h := h.1 c
        exact (b_Mod_invoke_144 hd h).less (e_sc (List.mem_of_getElem? (i := 0) rfl) (e_sc (List.mem_of_getElem? (i := 1) rfl) e_sn))
      · have h := h.2 c
        refine r_aload_n (kd188 rfl) rfl rfl ?_
        obtain ⟨g, h⟩ := h
        refine r_get2 (kd188 rfl) (by decide) rfl g rfl ?_
        refine r_iload_n (kd188 rfl) rfl rfl ?_
        refine r_aload_n (kd188 rfl) rfl rfl ?_
        obtain ⟨g, h⟩ := h
        refine r_get0 (kd188 rfl) (by decide) rfl g rfl ?_
        obtain ⟨g, h⟩ := h
        have h := h _ rfl
        refine r_iastore (kd188 rfl) g rfl ?_
        refine r_aload_n (kd188 rfl) rfl rfl ?_
        obtain ⟨g, h⟩ := h
        refine r_get2 (kd188 rfl) (by decide) rfl g rfl ?_
        refine r_aload_n (kd188 rfl) rfl rfl ?_
        obtain ⟨g, h⟩ := h
        refine r_get0 (kd188 rfl) (by decide) rfl g rfl ?_
        refine r_aload_n (kd188 rfl) rfl rfl ?_
        obtain ⟨g, h⟩ := h
        refine r_get0 (kd188 rfl) (by decide) rfl g rfl ?_
        obtain ⟨g, h⟩ := h
        have h := h _ rfl
        refine r_iastore (kd188 rfl) g rfl ?_
        refine r_aload_n (kd188 rfl) rfl rfl ?_
        refine r_iconst (kd188 rfl) (y := 0) (by decide) rfl ?_
        obtain ⟨g, h⟩ := h
        have h := h _ rfl
        refine r_put0 (kd188 rfl) (by decide) rfl g rfl ?_
        refine r_aload_n (kd188 rfl) rfl rfl ?_
        refine r_iload_n (kd188 rfl) rfl rfl ?_
        obtain ⟨g, h⟩ := h
        refine r_callVV (d' := d - 1) (by omega) (kd188 rfl) (by decide) rfl rfl rfl rfl (Nat.le_of_ble_eq_true rfl) rfl L190 (Nat.le_of_ble_eq_true rfl) (Nat.le_of_ble_eq_true rfl) g (Nat.zero_le _) (Nat.zero_le _) rfl rfl rfl (b_Mod_lay (by omega) h) (fun M1 h => ?_)
        refine r_aload_n (kd188 rfl) rfl rfl ?_
        obtain ⟨g, h⟩ := h
        refine r_get2 (kd188 rfl) (by decide) rfl g rfl ?_
        refine r_aload_n (kd188 rfl) rfl rfl ?_
        obtain ⟨g, h⟩ := h
        refine r_get0 (kd188 rfl) (by decide) rfl g rfl ?_
        refine r_aload_n (kd188 rfl) rfl rfl ?_
        obtain ⟨g, h⟩ := h
        refine r_get0 (kd188 rfl) (by decide) rfl g rfl ?_
        refine r_aload_n (kd188 rfl) rfl rfl ?_
        obtain ⟨g, h⟩ := h
        refine r_get2 (kd188 rfl) (by decide) rfl g rfl ?_
        refine r_aload_n (kd188 rfl) rfl rfl ?_
        obtain ⟨g, h⟩ := h
        refine r_get0 (kd188 rfl) (by decide) rfl g rfl ?_
        obtain ⟨g, h⟩ := h
        refine r_iaload (kd188 rfl) g rfl ?_
        refine r_isub (kd188 rfl) rfl ?_
        obtain ⟨g, h⟩ := h
        have h := h _ rfl
        refine r_iastore (kd188 rfl) g rfl ?_
        refine r_aload_n (kd188 rfl) rfl rfl ?_
        refine r_iconst (kd188 rfl) (y := 1) (by decide) rfl ?_
        refine r_iload_n (kd188 rfl) rfl rfl ?_
        refine r_aload_n (kd188 rfl) rfl rfl ?_
        obtain ⟨g, h⟩ := h
        refine r_get2 (kd188 rfl) (by decide) rfl g rfl ?_
        refine r_aload_n (kd188 rfl) rfl rfl ?_
        obtain ⟨g, h⟩ := h
        refine r_get0 (kd188 rfl) (by decide) rfl g rfl ?_
        obtain ⟨g, h⟩ := h
        refine r_iaload (kd188 rfl) g rfl ?_
        refine r_aload_n (kd188 rfl) rfl rfl ?_
        obtain ⟨g, h⟩ := h
        refine r_get2 (kd188 rfl) (by decide) rfl g rfl ?_
        refine r_iload_n (kd188 rfl) rfl rfl ?_
        obtain ⟨g, h⟩ := h
        refine r_iaload (kd188 rfl) g rfl ?_
        refine r_aload_n (kd188 rfl) rfl rfl ?_
        obtain ⟨g, h⟩ := h
        refine r_get0 (kd188 rfl) (by decide) rfl g rfl ?_
        refine r_iadd (kd188 rfl) rfl ?_
        obtain ⟨g, h⟩ := h
        refine r_callVV (d' := d - 1) (by omega) (kd188 rfl) (by decide) rfl rfl rfl rfl (Nat.le_of_ble_eq_true rfl) rfl L187 (Nat.le_of_ble_eq_true rfl) (Nat.le_of_ble_eq_true rfl) g (Nat.zero_le _) (Nat.zero_le _) rfl rfl rfl (b_Mod_note (by omega) h) (fun M1 h => ?_)
        refine r_aload_n (kd188 rfl) rfl rfl ?_
        refine r_dup (kd188 rfl) rfl rfl ?_
        obtain ⟨g, h⟩ := h
        refine r_get0 (kd188 rfl) (by decide) rfl g rfl ?_
        refine r_iconst (kd188 rfl) (y := 1) (by decide) rfl ?_
        refine r_iadd (kd188 rfl) rfl ?_
        obtain ⟨g, h⟩ := h
        have h := h _ rfl
        refine r_put0 (kd188 rfl) (by decide) rfl g rfl ?_
        refine r_aload_n (kd188 rfl) rfl rfl ?_
        refine r_dup (kd188 rfl) rfl rfl ?_
        obtain ⟨g, h⟩ := h
        refine r_get0 (kd188 rfl) (by decide) rfl g rfl ?_
        refine r_iconst (kd188 rfl) (y := 1) (by decide) rfl ?_
        refine r_iadd (kd188 rfl) rfl ?_
        obtain ⟨g, h⟩ := h
        have h := h _ rfl
        refine r_put0 (kd188 rfl) (by decide) rfl g rfl ?_
        exact (b_Mod_invoke_144 hd h).less (e_sc (List.mem_of_getElem? (i := 0) rfl) (e_sc (List.mem_of_getElem? (i := 1) rfl) e_sn))
/-- TierMillModel.start(IIII)Z -/
theorem kd185 {pc : Nat} {q : eI} (h : e_d185.lookup pc = some q) : e_dec 185 pc = some q := h
theorem L185 : (e_m 185).2.2.1 = 6 := rfl
theorem R185 : (e_m 185).2.2.2.1 = (some .boolean) := rfl
set_option maxRecDepth 100000 in
def w_Mod_start_233 (l0 : Nat) (l1 : Int32) (l2 : Int32) (l3 : Int32) (l4 : Int32) (l5 : Int32) (s0 : Int32) (s1 : Int32) (s2 : Nat) (M : eM) (Q : Int32 → eM → Prop) (k185 : Nat → Int32 → Int32 → Int32 → Int32 → Int32 → eM → Prop) : Prop := e_ar M s2 20 s1 ∧ ∀ M24 : eM, M24 = e_si M s2 s1.toNatClampNeg s0 → k185 l0 l1 l2 l3 l4 (l5 + 1) M24
set_option maxRecDepth 100000 in
theorem b_Mod_start_233 {d : Nat} {l0 : Nat} {l1 : Int32} {l2 : Int32} {l3 : Int32} {l4 : Int32} {l5 : Int32} {s0 : Int32} {s1 : Int32} {s2 : Nat} {M : eM} {Q : Int32 → eM → Prop} {k185 : Nat → Int32 → Int32 → Int32 → Int32 → Int32 → eM → Prop} (hd : 4 ≤ d) (hk185 : ∀ (l0 : Nat) (l1 : Int32) (l2 : Int32) (l3 : Int32) (l4 : Int32) (l5 : Int32) (M : eM), k185 l0 l1 l2 l3 l4 l5 M → e_E 185 d 0 0 185 [(0, .ref l0), (1, .int l1), (2, .int l2), (3, .int l3), (4, .int l4), (5, .int l5)] [] M (e_QI Q)) (h : w_Mod_start_233 l0 l1 l2 l3 l4 l5 s0 s1 s2 M Q k185) : e_E 185 d 0 0 233 [(0, .ref l0), (1, .int l1), (2, .int l2), (3, .int l3), (4, .int l4), (5, .int l5)] [.int s0, .int s1, .ref s2] M (e_QI Q) := by
  unfold w_Mod_start_233 at h
  obtain ⟨g, h⟩ := h
  have h := h _ rfl
  refine r_iastore (kd185 rfl) g rfl ?_
  refine r_iinc (kd185 rfl) rfl (y := 1) (by decide) L185 (by decide) rfl rfl ?_
  refine r_goto (kd185 rfl) ?_
  exact (hk185 _ _ _ _ _ _ _ h).less (e_sc (List.mem_of_getElem? (i := 1) rfl) (e_sc (List.mem_of_getElem? (i := 2) rfl) (e_sc (List.mem_of_getElem? (i := 3) rfl) (e_sc (List.mem_of_getElem? (i := 4) rfl) (e_sc (List.mem_of_getElem? (i := 5) rfl) (e_sc (List.mem_of_getElem? (i := 0) rfl) e_sn))))))
set_option maxRecDepth 100000 in
def w_Mod_start_185 : Nat → Nat → Int32 → Int32 → Int32 → Int32 → Int32 → eM → (Int32 → eM → Prop) → Prop
  | 0, _, _, _, _, _, _, _, _ => False
  | n + 1, l0, l1, l2, l3, l4, l5, M, Q => e_ob M l0 12 ∧ e_ai M (gr M l0 20) 0 ∧ ((gi M (gr M l0 20) (0 : Int32).toNatClampNeg) ≤ l5 → ((1 : Int32) = 0 ∨ (1 : Int32) = 1) ∧ Q (1 : Int32) M) ∧ (¬ (gi M (gr M l0 20) (0 : Int32).toNatClampNeg) ≤ l5 → e_ob M l0 12 ∧ (¬ l5 = 0 → (¬ l5 = 1 → (¬ l5 = 2 → w_Mod_start_233 l0 l1 l2 l3 l4 l5 l4 l5 (gr M l0 68) M Q (fun l0 l1 l2 l3 l4 l5 M => w_Mod_start_185 n l0 l1 l2 l3 l4 l5 M Q )) ∧ (l5 = 2 → w_Mod_start_233 l0 l1 l2 l3 l4 l5 l3 l5 (gr M l0 68) M Q (fun l0 l1 l2 l3 l4 l5 M => w_Mod_start_185 n l0 l1 l2 l3 l4 l5 M Q ))) ∧ (l5 = 1 → w_Mod_start_233 l0 l1 l2 l3 l4 l5 l2 l5 (gr M l0 68) M Q (fun l0 l1 l2 l3 l4 l5 M => w_Mod_start_185 n l0 l1 l2 l3 l4 l5 M Q ))) ∧ (l5 = 0 → w_Mod_start_233 l0 l1 l2 l3 l4 l5 l1 l5 (gr M l0 68) M Q (fun l0 l1 l2 l3 l4 l5 M => w_Mod_start_185 n l0 l1 l2 l3 l4 l5 M Q )))
set_option maxRecDepth 100000 in
theorem b_Mod_start_185 {d : Nat} {Q : Int32 → eM → Prop} (hd : 4 ≤ d) (n : Nat) : ∀ (l0 : Nat) (l1 : Int32) (l2 : Int32) (l3 : Int32) (l4 : Int32) (l5 : Int32) (M : eM), w_Mod_start_185 n l0 l1 l2 l3 l4 l5 M Q → e_E 185 d 0 0 185 [(0, .ref l0), (1, .int l1), (2, .int l2), (3, .int l3), (4, .int l4), (5, .int l5)] [] M (e_QI Q) := by
  induction n with
  | zero => intro l0 l1 l2 l3 l4 l5 M h; exact False.elim h
  | succ n ih =>
    intro l0 l1 l2 l3 l4 l5 M h
    have hk185 := ih
    refine r_iload (kd185 rfl) rfl rfl ?_
    refine r_aload_n (kd185 rfl) rfl rfl ?_
    obtain ⟨g, h⟩ := h
    refine r_get2 (kd185 rfl) (by decide) rfl g rfl ?_
    refine r_iconst (kd185 rfl) (y := 0) (by decide) rfl ?_
    obtain ⟨g, h⟩ := h
    refine r_iaload (kd185 rfl) g rfl ?_
    refine r_icmp_ge (kd185 rfl) rfl (fun c => ?_) (fun c => ?_)
    · have h := h.1 c
      refine r_iconst (kd185 rfl) (y := 1) (by decide) rfl ?_
      exact r_zreturn (kd185 rfl) R185 h.1 h.2
    · have h := h.2 c
      refine r_aload_n (kd185 rfl) rfl rfl ?_
      obtain ⟨g, h⟩ := h
      refine r_get2 (kd185 rfl) (by decide) rfl g rfl ?_
      refine r_iload (kd185 rfl) rfl rfl ?_
      refine r_iload (kd185 rfl) rfl rfl ?_
      refine r_if_ne (kd185 rfl) rfl (fun c => ?_) (fun c => ?_)
      · have h := h.1 c
        refine r_iload (kd185 rfl) rfl rfl ?_
        refine r_iconst (kd185 rfl) (y := 1) (by decide) rfl ?_
        refine r_icmp_ne (kd185 rfl) rfl (fun c => ?_) (fun c => ?_)
        · have h := h.1 c
          refine r_iload (kd185 rfl) rfl rfl ?_
          refine r_iconst (kd185 rfl) (y := 2) (by decide) rfl ?_
          refine r_icmp_ne (kd185 rfl) rfl (fun c => ?_) (fun c => ?_)
          · have h := h.1 c
            refine r_iload (kd185 rfl) rfl rfl ?_
            exact (b_Mod_start_233 hd hk185 h).less (e_sc (List.mem_of_getElem? (i := 0) rfl) (e_sc (List.mem_of_getElem? (i := 1) rfl) (e_sc (List.mem_of_getElem? (i := 2) rfl) (e_sc (List.mem_of_getElem? (i := 3) rfl) (e_sc (List.mem_of_getElem? (i := 4) rfl) (e_sc (List.mem_of_getElem? (i := 5) rfl) e_sn))))))
          · have h := h.2 c
            refine r_iload_n (kd185 rfl) rfl rfl ?_
            refine r_goto (kd185 rfl) ?_
            exact (b_Mod_start_233 hd hk185 h).less (e_sc (List.mem_of_getElem? (i := 0) rfl) (e_sc (List.mem_of_getElem? (i := 1) rfl) (e_sc (List.mem_of_getElem? (i := 2) rfl) (e_sc (List.mem_of_getElem? (i := 3) rfl) (e_sc (List.mem_of_getElem? (i := 4) rfl) (e_sc (List.mem_of_getElem? (i := 5) rfl) e_sn))))))
        · have h := h.2 c
          refine r_iload_n (kd185 rfl) rfl rfl ?_
          refine r_goto (kd185 rfl) ?_
          exact (b_Mod_start_233 hd hk185 h).less (e_sc (List.mem_of_getElem? (i := 0) rfl) (e_sc (List.mem_of_getElem? (i := 1) rfl) (e_sc (List.mem_of_getElem? (i := 2) rfl) (e_sc (List.mem_of_getElem? (i := 3) rfl) (e_sc (List.mem_of_getElem? (i := 4) rfl) (e_sc (List.mem_of_getElem? (i := 5) rfl) e_sn))))))
      · have h := h.2 c
        refine r_iload_n (kd185 rfl) rfl rfl ?_
        refine r_goto (kd185 rfl) ?_
        exact (b_Mod_start_233 hd hk185 h).less (e_sc (List.mem_of_getElem? (i := 0) rfl) (e_sc (List.mem_of_getElem? (i := 1) rfl) (e_sc (List.mem_of_getElem? (i := 2) rfl) (e_sc (List.mem_of_getElem? (i := 3) rfl) (e_sc (List.mem_of_getElem? (i := 4) rfl) (e_sc (List.mem_of_getElem? (i := 5) rfl) e_sn))))))
set_option maxRecDepth 100000 in
def w_Mod_start_155 : Nat → Nat → Int32 → Int32 → Int32 → Int32 → Int32 → eM → (Int32 → eM → Prop) → Prop
  | 0, _, _, _, _, _, _, _, _ => False
  | n + 1, l0, l1, l2, l3, l4, l5, M, Q => (15360 ≤ l5 → e_ob M l0 12 ∧ w_Mod_invoke l0 0 M (fun (M21 : eM) => ∃ n22 : Nat, w_Mod_start_185 n22 l0 l1 l2 l3 l4 0 M21 Q)) ∧ (¬ 15360 ≤ l5 → e_ob M l0 12 ∧ e_ar M (gr M l0 51) 20 l5 ∧ ∀ M23 : eM, M23 = e_si M (gr M l0 51) l5.toNatClampNeg 0 → (fun l0 l1 l2 l3 l4 l5 M => w_Mod_start_155 n l0 l1 l2 l3 l4 l5 M Q ) l0 l1 l2 l3 l4 (l5 + 1) M23)
set_option maxRecDepth 100000 in
theorem b_Mod_start_155 {d : Nat} {Q : Int32 → eM → Prop} (hd : 4 ≤ d) (n : Nat) : ∀ (l0 : Nat) (l1 : Int32) (l2 : Int32) (l3 : Int32) (l4 : Int32) (l5 : Int32) (M : eM), w_Mod_start_155 n l0 l1 l2 l3 l4 l5 M Q → e_E 185 d 0 0 155 [(0, .ref l0), (1, .int l1), (2, .int l2), (3, .int l3), (4, .int l4), (5, .int l5)] [] M (e_QI Q) := by
  induction n with
  | zero => intro l0 l1 l2 l3 l4 l5 M h; exact False.elim h
  | succ n ih =>
    intro l0 l1 l2 l3 l4 l5 M h
    have hk155 := ih
    refine r_iload (kd185 rfl) rfl rfl ?_
    refine r_sipush (kd185 rfl) (y := 15360) (by decide) rfl ?_
    refine r_icmp_ge (kd185 rfl) rfl (fun c => ?_) (fun c => ?_)
    · have h := h.1 c
      refine r_aload_n (kd185 rfl) rfl rfl ?_
      refine r_iconst (kd185 rfl) (y := 0) (by decide) rfl ?_
      obtain ⟨g, h⟩ := h
      refine r_callVV (d' := d - 1) (by omega) (kd185 rfl) (by decide) rfl rfl rfl rfl (Nat.le_of_ble_eq_true rfl) rfl L188 (Nat.le_of_ble_eq_true rfl) (Nat.le_of_ble_eq_true rfl) g (Nat.zero_le _) (Nat.zero_le _) rfl rfl rfl (b_Mod_invoke (by omega) h) (fun M1 h => ?_)
      refine r_iconst (kd185 rfl) (y := 0) (by decide) rfl ?_
      refine r_istore (kd185 rfl) L185 (by decide) rfl rfl ?_
      obtain ⟨n, h⟩ := h
      exact (b_Mod_start_185 hd n _ _ _ _ _ _ _ h).less (e_sc (List.mem_of_getElem? (i := 1) rfl) (e_sc (List.mem_of_getElem? (i := 2) rfl) (e_sc (List.mem_of_getElem? (i := 3) rfl) (e_sc (List.mem_of_getElem? (i := 4) rfl) (e_sc (List.mem_of_getElem? (i := 5) rfl) (e_sc (List.mem_of_getElem? (i := 0) rfl) e_sn))))))
    · have h := h.2 c
      refine r_aload_n (kd185 rfl) rfl rfl ?_
      obtain ⟨g, h⟩ := h
      refine r_get2 (kd185 rfl) (by decide) rfl g rfl ?_
      refine r_iload (kd185 rfl) rfl rfl ?_
      refine r_iconst (kd185 rfl) (y := 0) (by decide) rfl ?_
      obtain ⟨g, h⟩ := h
      have h := h _ rfl
      refine r_iastore (kd185 rfl) g rfl ?_
      refine r_iinc (kd185 rfl) rfl (y := 1) (by decide) L185 (by decide) rfl rfl ?_
      refine r_goto (kd185 rfl) ?_
      exact (hk155 _ _ _ _ _ _ _ h).less (e_sc (List.mem_of_getElem? (i := 1) rfl) (e_sc (List.mem_of_getElem? (i := 2) rfl) (e_sc (List.mem_of_getElem? (i := 3) rfl) (e_sc (List.mem_of_getElem? (i := 4) rfl) (e_sc (List.mem_of_getElem? (i := 5) rfl) (e_sc (List.mem_of_getElem? (i := 0) rfl) e_sn))))))
set_option maxRecDepth 100000 in
def w_Mod_start_123 : Nat → Nat → Int32 → Int32 → Int32 → Int32 → Int32 → eM → (Int32 → eM → Prop) → Prop
  | 0, _, _, _, _, _, _, _, _ => False
  | n + 1, l0, l1, l2, l3, l4, l5, M, Q => (16 ≤ l5 → ∃ n18 : Nat, w_Mod_start_155 n18 l0 l1 l2 l3 l4 0 M Q) ∧ (¬ 16 ≤ l5 → e_ob M l0 12 ∧ e_ar M (gr M l0 49) 20 l5 ∧ ∀ M19 : eM, M19 = e_si M (gr M l0 49) l5.toNatClampNeg 0 → e_ob M19 l0 12 ∧ e_ar M19 (gr M19 l0 50) 20 l5 ∧ ∀ M20 : eM, M20 = e_si M19 (gr M19 l0 50) l5.toNatClampNeg (-1) → (fun l0 l1 l2 l3 l4 l5 M => w_Mod_start_123 n l0 l1 l2 l3 l4 l5 M Q ) l0 l1 l2 l3 l4 (l5 + 1) M20)
set_option maxRecDepth 100000 in
theorem b_Mod_start_123 {d : Nat} {Q : Int32 → eM → Prop} (hd : 4 ≤ d) (n : Nat) : ∀ (l0 : Nat) (l1 : Int32) (l2 : Int32) (l3 : Int32) (l4 : Int32) (l5 : Int32) (M : eM), w_Mod_start_123 n l0 l1 l2 l3 l4 l5 M Q → e_E 185 d 0 0 123 [(0, .ref l0), (1, .int l1), (2, .int l2), (3, .int l3), (4, .int l4), (5, .int l5)] [] M (e_QI Q) := by
  induction n with
  | zero => intro l0 l1 l2 l3 l4 l5 M h; exact False.elim h
  | succ n ih =>
    intro l0 l1 l2 l3 l4 l5 M h
    have hk123 := ih
    refine r_iload (kd185 rfl) rfl rfl ?_
    refine r_bipush (kd185 rfl) (y := 16) (by decide) rfl ?_
    refine r_icmp_ge (kd185 rfl) rfl (fun c => ?_) (fun c => ?_)
    · have h := h.1 c
      refine r_iconst (kd185 rfl) (y := 0) (by decide) rfl ?_
      refine r_istore (kd185 rfl) L185 (by decide) rfl rfl ?_
      obtain ⟨n, h⟩ := h
      exact (b_Mod_start_155 hd n _ _ _ _ _ _ _ h).less (e_sc (List.mem_of_getElem? (i := 1) rfl) (e_sc (List.mem_of_getElem? (i := 2) rfl) (e_sc (List.mem_of_getElem? (i := 3) rfl) (e_sc (List.mem_of_getElem? (i := 4) rfl) (e_sc (List.mem_of_getElem? (i := 5) rfl) (e_sc (List.mem_of_getElem? (i := 0) rfl) e_sn))))))
    · have h := h.2 c
      refine r_aload_n (kd185 rfl) rfl rfl ?_
      obtain ⟨g, h⟩ := h
      refine r_get2 (kd185 rfl) (by decide) rfl g rfl ?_
      refine r_iload (kd185 rfl) rfl rfl ?_
      refine r_iconst (kd185 rfl) (y := 0) (by decide) rfl ?_
      obtain ⟨g, h⟩ := h
      have h := h _ rfl
      refine r_iastore (kd185 rfl) g rfl ?_
      refine r_aload_n (kd185 rfl) rfl rfl ?_
      obtain ⟨g, h⟩ := h
      refine r_get2 (kd185 rfl) (by decide) rfl g rfl ?_
      refine r_iload (kd185 rfl) rfl rfl ?_
      refine r_iconst (kd185 rfl) (y := (-1)) (by decide) rfl ?_
      obtain ⟨g, h⟩ := h
      have h := h _ rfl
      refine r_iastore (kd185 rfl) g rfl ?_
      refine r_iinc (kd185 rfl) rfl (y := 1) (by decide) L185 (by decide) rfl rfl ?_
      refine r_goto (kd185 rfl) ?_
      exact (hk123 _ _ _ _ _ _ _ h).less (e_sc (List.mem_of_getElem? (i := 1) rfl) (e_sc (List.mem_of_getElem? (i := 2) rfl) (e_sc (List.mem_of_getElem? (i := 3) rfl) (e_sc (List.mem_of_getElem? (i := 4) rfl) (e_sc (List.mem_of_getElem? (i := 5) rfl) (e_sc (List.mem_of_getElem? (i := 0) rfl) e_sn))))))
set_option maxRecDepth 100000 in
def w_Mod_start_17 : Nat → Nat → Int32 → Int32 → Int32 → Int32 → Int32 → eM → (Int32 → eM → Prop) → Prop
  | 0, _, _, _, _, _, _, _, _ => False
  | n + 1, l0, l1, l2, l3, l4, l5, M, Q => e_ob M l0 12 ∧ e_ai M (gr M l0 20) 0 ∧ ((gi M (gr M l0 20) (0 : Int32).toNatClampNeg) ≤ l5 → e_ob M l0 12 ∧ ∀ M3 : eM, M3 = e_si M l0 41 1 → e_ob M3 l0 12 ∧ ∀ M4 : eM, M4 = e_si M3 l0 42 0 → e_ob M4 l0 12 ∧ ∀ M5 : eM, M5 = e_si M4 l0 43 0 → e_ob M5 l0 12 ∧ ∀ M6 : eM, M6 = e_si M5 l0 44 0 → e_ob M6 l0 12 ∧ ∀ M7 : eM, M7 = e_si M6 l0 47 0 → e_ob M7 l0 12 ∧ ∀ M8 : eM, M8 = e_si M7 l0 52 0 → e_ob M8 l0 12 ∧ ∀ M9 : eM, M9 = e_si M8 l0 54 0 → e_ob M9 l0 12 ∧ ∀ M10 : eM, M10 = e_si M9 l0 58 0 → e_ob M10 l0 12 ∧ ∀ M11 : eM, M11 = e_si M10 l0 60 0 → e_ob M11 l0 12 ∧ ∀ M12 : eM, M12 = e_si M11 l0 71 0 → e_ob M12 l0 12 ∧ ∀ M13 : eM, M13 = e_si M12 l0 72 0 → e_ob M13 l0 12 ∧ ∀ M14 : eM, M14 = e_si M13 l0 73 0 → e_ob M14 l0 12 ∧ ∀ M15 : eM, M15 = e_si M14 l0 79 0 → e_ob M15 l0 12 ∧ e_ob M15 l0 12 ∧ ∀ M16 : eM, M16 = e_si M15 l0 70 (gi M15 l0 38) → ∃ n17 : Nat, w_Mod_start_123 n17 l0 l1 l2 l3 l4 0 M16 Q) ∧ (¬ (gi M (gr M l0 20) (0 : Int32).toNatClampNeg) ≤ l5 → e_ob M l0 12 ∧ e_ai M (gr M l0 21) l5 ∧ ((gi M (gr M l0 21) l5.toNatClampNeg) = 1 → (fun l0 l1 l2 l3 l4 l5 M => w_Mod_start_17 n l0 l1 l2 l3 l4 l5 M Q ) l0 l1 l2 l3 l4 (l5 + 1) M) ∧ (¬ (gi M (gr M l0 21) l5.toNatClampNeg) = 1 → ((0 : Int32) = 0 ∨ (0 : Int32) = 1) ∧ Q (0 : Int32) M))
set_option maxRecDepth 100000 in
theorem b_Mod_start_17 {d : Nat} {Q : Int32 → eM → Prop} (hd : 4 ≤ d) (n : Nat) : ∀ (l0 : Nat) (l1 : Int32) (l2 : Int32) (l3 : Int32) (l4 : Int32) (l5 : Int32) (M : eM), w_Mod_start_17 n l0 l1 l2 l3 l4 l5 M Q → e_E 185 d 0 0 17 [(0, .ref l0), (1, .int l1), (2, .int l2), (3, .int l3), (4, .int l4), (5, .int l5)] [] M (e_QI Q) := by
  induction n with
  | zero => intro l0 l1 l2 l3 l4 l5 M h; exact False.elim h
  | succ n ih =>
    intro l0 l1 l2 l3 l4 l5 M h
    have hk17 := ih
    refine r_iload (kd185 rfl) rfl rfl ?_
    refine r_aload_n (kd185 rfl) rfl rfl ?_
    obtain ⟨g, h⟩ := h
    refine r_get2 (kd185 rfl) (by decide) rfl g rfl ?_
    refine r_iconst (kd185 rfl) (y := 0) (by decide) rfl ?_
    obtain ⟨g, h⟩ := h
    refine r_iaload (kd185 rfl) g rfl ?_
    refine r_icmp_ge (kd185 rfl) rfl (fun c => ?_) (fun c => ?_)
    · have h := h.1 c
      refine r_aload_n (kd185 rfl) rfl rfl ?_
      refine r_iconst (kd185 rfl) (y := 1) (by decide) rfl ?_
      obtain ⟨g, h⟩ := h
      have h := h _ rfl
      refine r_put0 (kd185 rfl) (by decide) rfl g rfl ?_
      refine r_aload_n (kd185 rfl) rfl rfl ?_
      refine r_iconst (kd185 rfl) (y := 0) (by decide) rfl ?_
      obtain ⟨g, h⟩ := h
      have h := h _ rfl
      refine r_put0 (kd185 rfl) (by decide) rfl g rfl ?_
      refine r_aload_n (kd185 rfl) rfl rfl ?_
      refine r_iconst (kd185 rfl) (y := 0) (by decide) rfl ?_
      obtain ⟨g, h⟩ := h
      have h := h _ rfl
      refine r_put0 (kd185 rfl) (by decide) rfl g rfl ?_
      refine r_aload_n (kd185 rfl) rfl rfl ?_
      refine r_iconst (kd185 rfl) (y := 0) (by decide) rfl ?_
      obtain ⟨g, h⟩ := h
      have h := h _ rfl
      refine r_put0 (kd185 rfl) (by decide) rfl g rfl ?_
      refine r_aload_n (kd185 rfl) rfl rfl ?_
      refine r_iconst (kd185 rfl) (y := 0) (by decide) rfl ?_
      obtain ⟨g, h⟩ := h
      have h := h _ rfl
      refine r_put0 (kd185 rfl) (by decide) rfl g rfl ?_
      refine r_aload_n (kd185 rfl) rfl rfl ?_
      refine r_iconst (kd185 rfl) (y := 0) (by decide) rfl ?_
      obtain ⟨g, h⟩ := h
      have h := h _ rfl
      refine r_put0 (kd185 rfl) (by decide) rfl g rfl ?_
      refine r_aload_n (kd185 rfl) rfl rfl ?_
      refine r_iconst (kd185 rfl) (y := 0) (by decide) rfl ?_
      obtain ⟨g, h⟩ := h
      have h := h _ rfl
      refine r_put0 (kd185 rfl) (by decide) rfl g rfl ?_
      refine r_aload_n (kd185 rfl) rfl rfl ?_
      refine r_iconst (kd185 rfl) (y := 0) (by decide) rfl ?_
      obtain ⟨g, h⟩ := h
      have h := h _ rfl
      refine r_put0 (kd185 rfl) (by decide) rfl g rfl ?_
      refine r_aload_n (kd185 rfl) rfl rfl ?_
      refine r_iconst (kd185 rfl) (y := 0) (by decide) rfl ?_
      obtain ⟨g, h⟩ := h
      have h := h _ rfl
      refine r_put0 (kd185 rfl) (by decide) rfl g rfl ?_
      refine r_aload_n (kd185 rfl) rfl rfl ?_
      refine r_iconst (kd185 rfl) (y := 0) (by decide) rfl ?_
      obtain ⟨g, h⟩ := h
      have h := h _ rfl
      refine r_put0 (kd185 rfl) (by decide) rfl g rfl ?_
      refine r_aload_n (kd185 rfl) rfl rfl ?_
      refine r_iconst (kd185 rfl) (y := 0) (by decide) rfl ?_
      obtain ⟨g, h⟩ := h
      have h := h _ rfl
      refine r_put0 (kd185 rfl) (by decide) rfl g rfl ?_
      refine r_aload_n (kd185 rfl) rfl rfl ?_
      refine r_iconst (kd185 rfl) (y := 0) (by decide) rfl ?_
      obtain ⟨g, h⟩ := h
      have h := h _ rfl
      refine r_put0 (kd185 rfl) (by decide) rfl g rfl ?_
      refine r_aload_n (kd185 rfl) rfl rfl ?_
      refine r_iconst (kd185 rfl) (y := 0) (by decide) rfl ?_
      obtain ⟨g, h⟩ := h
      have h := h _ rfl
      refine r_put0 (kd185 rfl) (by decide) rfl g rfl ?_
      refine r_aload_n (kd185 rfl) rfl rfl ?_
      refine r_aload_n (kd185 rfl) rfl rfl ?_
      obtain ⟨g, h⟩ := h
      refine r_get0 (kd185 rfl) (by decide) rfl g rfl ?_
      obtain ⟨g, h⟩ := h
      have h := h _ rfl
      refine r_put0 (kd185 rfl) (by decide) rfl g rfl ?_
      refine r_iconst (kd185 rfl) (y := 0) (by decide) rfl ?_
      refine r_istore (kd185 rfl) L185 (by decide) rfl rfl ?_
      obtain ⟨n, h⟩ := h
      exact (b_Mod_start_123 hd n _ _ _ _ _ _ _ h).less (e_sc (List.mem_of_getElem? (i := 1) rfl) (e_sc (List.mem_of_getElem? (i := 2) rfl) (e_sc (List.mem_of_getElem? (i := 3) rfl) (e_sc (List.mem_of_getElem? (i := 4) rfl) (e_sc (List.mem_of_getElem? (i := 5) rfl) (e_sc (List.mem_of_getElem? (i := 0) rfl) e_sn))))))
    · have h := h.2 c
      refine r_aload_n (kd185 rfl) rfl rfl ?_
      obtain ⟨g, h⟩ := h
      refine r_get2 (kd185 rfl) (by decide) rfl g rfl ?_
      refine r_iload (kd185 rfl) rfl rfl ?_
      obtain ⟨g, h⟩ := h
      refine r_iaload (kd185 rfl) g rfl ?_
      refine r_iconst (kd185 rfl) (y := 1) (by decide) rfl ?_
      refine r_icmp_eq (kd185 rfl) rfl (fun c => ?_) (fun c => ?_)
      · have h := h.1 c
        refine r_iinc (kd185 rfl) rfl (y := 1) (by decide) L185 (by decide) rfl rfl ?_
        refine r_goto (kd185 rfl) ?_
        exact (hk17 _ _ _ _ _ _ _ h).less (e_sc (List.mem_of_getElem? (i := 1) rfl) (e_sc (List.mem_of_getElem? (i := 2) rfl) (e_sc (List.mem_of_getElem? (i := 3) rfl) (e_sc (List.mem_of_getElem? (i := 4) rfl) (e_sc (List.mem_of_getElem? (i := 5) rfl) (e_sc (List.mem_of_getElem? (i := 0) rfl) e_sn))))))
      · have h := h.2 c
        refine r_iconst (kd185 rfl) (y := 0) (by decide) rfl ?_
        exact r_zreturn (kd185 rfl) R185 h.1 h.2
set_option maxRecDepth 100000 in
def w_Mod_start (l0 : Nat) (l1 : Int32) (l2 : Int32) (l3 : Int32) (l4 : Int32) (M : eM) (Q : Int32 → eM → Prop) : Prop := e_ob M l0 12 ∧ ∀ M1 : eM, M1 = e_si M l0 0 0 → e_ob M1 l0 12 ∧ (¬ (gi M1 l0 7) = 0 → ∃ n2 : Nat, w_Mod_start_17 n2 l0 l1 l2 l3 l4 0 M1 Q) ∧ ((gi M1 l0 7) = 0 → ((0 : Int32) = 0 ∨ (0 : Int32) = 1) ∧ Q (0 : Int32) M1)
set_option maxRecDepth 100000 in
theorem b_Mod_start {d : Nat} {l0 : Nat} {l1 : Int32} {l2 : Int32} {l3 : Int32} {l4 : Int32} {M : eM} {Q : Int32 → eM → Prop} (hd : 4 ≤ d) (h : w_Mod_start l0 l1 l2 l3 l4 M Q) : e_CI 185 d 0 0 [.ref l0, .int l1, .int l2, .int l3, .int l4] M Q := by
  unfold w_Mod_start at h
  show e_E 185 d 0 0 0 [(0, .ref l0), (1, .int l1), (2, .int l2), (3, .int l3), (4, .int l4)] [] M (e_QI Q)
  refine r_aload_n (kd185 rfl) rfl rfl ?_
  refine r_iconst (kd185 rfl) (y := 0) (by decide) rfl ?_
  obtain ⟨g, h⟩ := h
  have h := h _ rfl
  refine r_put0 (kd185 rfl) (by decide) rfl g rfl ?_
  refine r_aload_n (kd185 rfl) rfl rfl ?_
  obtain ⟨g, h⟩ := h
  refine r_get3 (kd185 rfl) (by decide) rfl g rfl ?_
  refine r_if_ne (kd185 rfl) rfl (fun c => ?_) (fun c => ?_)
  · have h := h.1 c
    refine r_iconst (kd185 rfl) (y := 0) (by decide) rfl ?_
    refine r_istore (kd185 rfl) L185 (by decide) rfl rfl ?_
    obtain ⟨n, h⟩ := h
    exact (b_Mod_start_17 hd n _ _ _ _ _ _ _ h).less (e_sc (List.mem_of_getElem? (i := 1) rfl) (e_sc (List.mem_of_getElem? (i := 2) rfl) (e_sc (List.mem_of_getElem? (i := 3) rfl) (e_sc (List.mem_of_getElem? (i := 4) rfl) (e_sc (List.mem_of_getElem? (i := 5) rfl) (e_sc (List.mem_of_getElem? (i := 0) rfl) e_sn))))))
  · have h := h.2 c
    refine r_iconst (kd185 rfl) (y := 0) (by decide) rfl ?_
    exact r_zreturn (kd185 rfl) R185 h.1 h.2
