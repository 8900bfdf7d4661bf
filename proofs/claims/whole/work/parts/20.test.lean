/-- TierMill$Program.begins(II)Z -/
theorem kd67 {pc : Nat} {q : eI} (h : e_d67.lookup pc = some q) : e_dec 67 pc = some q := h
theorem L67 : (e_m 67).2.2.1 = 4 := rfl
theorem R67 : (e_m 67).2.2.2.1 = (some .boolean) := rfl
def w_Program_begins_12 (M : eM) (Q : Int32 → eM → Prop) : Prop := ((0 : Int32) = 0 ∨ (0 : Int32) = 1) ∧ Q (0 : Int32) M
theorem b_Program_begins_12 {d : Nat} {M : eM} {Q : Int32 → eM → Prop} (hd : 0 ≤ d) (h : w_Program_begins_12 M Q ) : e_E 67 d 0 0 12 [] [] M (e_QI Q) := by
  unfold w_Program_begins_12 at h
  refine r_iconst (kd67 rfl) (y := 0) (by decide) rfl ?_
  exact r_zreturn (kd67 rfl) R67 h.1 h.2
def w_Program_begins_52 (s0 : Int32) (M : eM) (Q : Int32 → eM → Prop) : Prop := (s0 = 0 ∨ s0 = 1) ∧ Q s0 M
theorem b_Program_begins_52 {d : Nat} {s0 : Int32} {M : eM} {Q : Int32 → eM → Prop} (hd : 0 ≤ d) (h : w_Program_begins_52 s0 M Q ) : e_E 67 d 0 0 52 [] [.int s0] M (e_QI Q) := by
  unfold w_Program_begins_52 at h
  exact r_zreturn (kd67 rfl) R67 h.1 h.2
def w_Program_begins_51 (M : eM) (Q : Int32 → eM → Prop) : Prop := w_Program_begins_52 0 M Q
theorem b_Program_begins_51 {d : Nat} {M : eM} {Q : Int32 → eM → Prop} (hd : 0 ≤ d) (h : w_Program_begins_51 M Q ) : e_E 67 d 0 0 51 [] [] M (e_QI Q) := by
  unfold w_Program_begins_51 at h
  refine r_iconst (kd67 rfl) (y := 0) (by decide) rfl ?_
  exact (b_Program_begins_52 hd h).less e_sn
def w_Program_begins (l0 : Nat) (l1 : Int32) (l2 : Int32) (M : eM) (Q : Int32 → eM → Prop) : Prop := (l1 < 0 → w_Program_begins_12 M Q) ∧ (¬ l1 < 0 → e_ob M l0 6 ∧ (l1 < (gi M l0 9) → e_ob M l0 6 ∧ (e_ar M (gr M l0 10) 23 l1 ∨ e_ar M (gr M l0 10) 24 l1) ∧ (l2 < 0 → w_Program_begins_51 M Q) ∧ (¬ l2 < 0 → e_ob M (gr M (gr M l0 10) l1.toNatClampNeg) 8 ∧ ((gi M (gr M (gr M l0 10) l1.toNatClampNeg) 6) ≤ l2 → w_Program_begins_51 M Q) ∧ (¬ (gi M (gr M (gr M l0 10) l1.toNatClampNeg) 6) ≤ l2 → e_ob M l0 6 ∧ e_ob M (gr M (gr M l0 10) l1.toNatClampNeg) 8 ∧ e_ai M (gr M l0 12) ((gi M (gr M (gr M l0 10) l1.toNatClampNeg) 5) + l2) ∧ ((gi M (gr M l0 12) ((gi M (gr M (gr M l0 10) l1.toNatClampNeg) 5) + l2).toNatClampNeg) = 0 → w_Program_begins_51 M Q) ∧ (¬ (gi M (gr M l0 12) ((gi M (gr M (gr M l0 10) l1.toNatClampNeg) 5) + l2).toNatClampNeg) = 0 → w_Program_begins_52 1 M Q)))) ∧ (¬ l1 < (gi M l0 9) → w_Program_begins_12 M Q))
theorem b_Program_begins {d : Nat} {l0 : Nat} {l1 : Int32} {l2 : Int32} {M : eM} {Q : Int32 → eM → Prop} (hd : 0 ≤ d) (h : w_Program_begins l0 l1 l2 M Q) : e_CI 67 d 0 0 [.ref l0, .int l1, .int l2] M Q := by
  unfold w_Program_begins at h
  show e_E 67 d 0 0 0 [(0, .ref l0), (1, .int l1), (2, .int l2)] [] M (e_QI Q)
  refine r_iload_n (kd67 rfl) rfl rfl ?_
  refine r_if_lt (kd67 rfl) rfl (fun c => ?_) (fun c => ?_)
  · have h := h.1 c
    exact (b_Program_begins_12 hd h).less e_sn
  · have h := h.2 c
    refine r_iload_n (kd67 rfl) rfl rfl ?_
    refine r_aload_n (kd67 rfl) rfl rfl ?_
    obtain ⟨g, h⟩ := h
    refine r_get0 (kd67 rfl) (by decide) rfl g rfl ?_
    refine r_icmp_lt (kd67 rfl) rfl (fun c => ?_) (fun c => ?_)
    · have h := h.1 c
      refine r_aload_n (kd67 rfl) rfl rfl ?_
      obtain ⟨g, h⟩ := h
      refine r_get2 (kd67 rfl) (by decide) rfl g rfl ?_
      refine r_iload_n (kd67 rfl) rfl rfl ?_
      obtain ⟨g, h⟩ := h
      refine r_aaload (kd67 rfl) g rfl ?_
      refine r_astore_n (kd67 rfl) L67 (by decide) rfl rfl ?_
      refine r_iload_n (kd67 rfl) rfl rfl ?_
      refine r_if_lt (kd67 rfl) rfl (fun c => ?_) (fun c => ?_)
      · have h := h.1 c
        exact (b_Program_begins_51 hd h).less e_sn
      · have h := h.2 c
        refine r_iload_n (kd67 rfl) rfl rfl ?_
        refine r_aload_n (kd67 rfl) rfl rfl ?_
        obtain ⟨g, h⟩ := h
        refine r_get0 (kd67 rfl) (by decide) rfl g rfl ?_
        refine r_icmp_ge (kd67 rfl) rfl (fun c => ?_) (fun c => ?_)
        · have h := h.1 c
          exact (b_Program_begins_51 hd h).less e_sn
        · have h := h.2 c
          refine r_aload_n (kd67 rfl) rfl rfl ?_
          obtain ⟨g, h⟩ := h
          refine r_get2 (kd67 rfl) (by decide) rfl g rfl ?_
          refine r_aload_n (kd67 rfl) rfl rfl ?_
          obtain ⟨g, h⟩ := h
          refine r_get0 (kd67 rfl) (by decide) rfl g rfl ?_
          refine r_iload_n (kd67 rfl) rfl rfl ?_
          refine r_iadd (kd67 rfl) rfl ?_
          obtain ⟨g, h⟩ := h
          refine r_iaload (kd67 rfl) g rfl ?_
          refine r_if_eq (kd67 rfl) rfl (fun c => ?_) (fun c => ?_)
          · have h := h.1 c
            exact (b_Program_begins_51 hd h).less e_sn
          · have h := h.2 c
            refine r_iconst (kd67 rfl) (y := 1) (by decide) rfl ?_
            refine r_goto (kd67 rfl) ?_
            exact (b_Program_begins_52 hd h).less e_sn
    · have h := h.2 c
      exact (b_Program_begins_12 hd h).less e_sn
/-- TierMill$Frames.peek(I)I -/
theorem kd16 {pc : Nat} {q : eI} (h : e_d16.lookup pc = some q) : e_dec 16 pc = some q := h
theorem L16 : (e_m 16).2.2.1 = 3 := rfl
theorem R16 : (e_m 16).2.2.2.1 = (some .int) := rfl
def w_Frames_peek (l0 : Nat) (l1 : Int32) (M : eM) (Q : Int32 → eM → Prop) : Prop := e_ob M l0 2 ∧ e_ob M l0 2 ∧ e_ob M l0 2 ∧ e_ai M (gr M l0 6) ((gi M l0 0) - 1) ∧ e_ai M (gr M l0 7) (((((((gi M l0 0) - 1) * 16) + 8) + (gi M (gr M l0 6) ((gi M l0 0) - 1).toNatClampNeg)) - 1) - l1) ∧ Q (gi M (gr M l0 7) (((((((gi M l0 0) - 1) * 16) + 8) + (gi M (gr M l0 6) ((gi M l0 0) - 1).toNatClampNeg)) - 1) - l1).toNatClampNeg) M
theorem b_Frames_peek {d : Nat} {l0 : Nat} {l1 : Int32} {M : eM} {Q : Int32 → eM → Prop} (hd : 0 ≤ d) (h : w_Frames_peek l0 l1 M Q) : e_CI 16 d 0 0 [.ref l0, .int l1] M Q := by
  unfold w_Frames_peek at h
  show e_E 16 d 0 0 0 [(0, .ref l0), (1, .int l1)] [] M (e_QI Q)
  refine r_aload_n (kd16 rfl) rfl rfl ?_
  obtain ⟨g, h⟩ := h
  refine r_get0 (kd16 rfl) (by decide) rfl g rfl ?_
  refine r_iconst (kd16 rfl) (y := 1) (by decide) rfl ?_
  refine r_isub (kd16 rfl) rfl ?_
  refine r_istore_n (kd16 rfl) L16 (by decide) rfl rfl ?_
  refine r_aload_n (kd16 rfl) rfl rfl ?_
  obtain ⟨g, h⟩ := h
  refine r_get2 (kd16 rfl) (by decide) rfl g rfl ?_
  refine r_iload_n (kd16 rfl) rfl rfl ?_
  refine r_bipush (kd16 rfl) (y := 16) (by decide) rfl ?_
  refine r_imul (kd16 rfl) rfl ?_
  refine r_bipush (kd16 rfl) (y := 8) (by decide) rfl ?_
  refine r_iadd (kd16 rfl) rfl ?_
  refine r_aload_n (kd16 rfl) rfl rfl ?_
  obtain ⟨g, h⟩ := h
  refine r_get2 (kd16 rfl) (by decide) rfl g rfl ?_
  refine r_iload_n (kd16 rfl) rfl rfl ?_
  obtain ⟨g, h⟩ := h
  refine r_iaload (kd16 rfl) g rfl ?_
  refine r_iadd (kd16 rfl) rfl ?_
  refine r_iconst (kd16 rfl) (y := 1) (by decide) rfl ?_
  refine r_isub (kd16 rfl) rfl ?_
  refine r_iload_n (kd16 rfl) rfl rfl ?_
  refine r_isub (kd16 rfl) rfl ?_
  obtain ⟨g, h⟩ := h
  refine r_iaload (kd16 rfl) g rfl ?_
  exact r_ireturn (kd16 rfl) R16 h
/-- TierMill$Frames.pop()I -/
theorem kd17 {pc : Nat} {q : eI} (h : e_d17.lookup pc = some q) : e_dec 17 pc = some q := h
theorem L17 : (e_m 17).2.2.1 = 2 := rfl
theorem R17 : (e_m 17).2.2.2.1 = (some .int) := rfl
def w_Frames_pop (l0 : Nat) (M : eM) (Q : Int32 → eM → Prop) : Prop := e_ob M l0 2 ∧ w_Frames_peek l0 0 M (fun (v2 : Int32) (M1 : eM) => e_ob M1 l0 2 ∧ e_ob M1 l0 2 ∧ e_ai M1 (gr M1 l0 6) ((gi M1 l0 0) - 1) ∧ e_ar M1 (gr M1 l0 6) 20 ((gi M1 l0 0) - 1) ∧ ∀ M3 : eM, M3 = e_si M1 (gr M1 l0 6) ((gi M1 l0 0) - 1).toNatClampNeg ((gi M1 (gr M1 l0 6) ((gi M1 l0 0) - 1).toNatClampNeg) - 1) → Q v2 M3)
theorem b_Frames_pop {d : Nat} {l0 : Nat} {M : eM} {Q : Int32 → eM → Prop} (hd : 1 ≤ d) (h : w_Frames_pop l0 M Q) : e_CI 17 d 0 0 [.ref l0] M Q := by
  unfold w_Frames_pop at h
  show e_E 17 d 0 0 0 [(0, .ref l0)] [] M (e_QI Q)
  refine r_aload_n (kd17 rfl) rfl rfl ?_
  refine r_iconst (kd17 rfl) (y := 0) (by decide) rfl ?_
  obtain ⟨g, h⟩ := h
  refine r_callVI (d' := d - 1) (by omega) (kd17 rfl) (by decide) rfl rfl rfl (Nat.le_of_ble_eq_true rfl) rfl L16 (Nat.le_of_ble_eq_true rfl) (Nat.le_of_ble_eq_true rfl) g (Nat.zero_le _) (Nat.zero_le _) rfl rfl rfl (b_Frames_peek (by omega) h) (fun x1 M1 h => ?_)
  refine r_istore_n (kd17 rfl) L17 (by decide) rfl rfl ?_
  refine r_aload_n (kd17 rfl) rfl rfl ?_
  obtain ⟨g, h⟩ := h
  refine r_get2 (kd17 rfl) (by decide) rfl g rfl ?_
  refine r_aload_n (kd17 rfl) rfl rfl ?_
  obtain ⟨g, h⟩ := h
  refine r_get0 (kd17 rfl) (by decide) rfl g rfl ?_
  refine r_iconst (kd17 rfl) (y := 1) (by decide) rfl ?_
  refine r_isub (kd17 rfl) rfl ?_
  refine r_dup2 (kd17 rfl) rfl rfl rfl ?_
  obtain ⟨g, h⟩ := h
  refine r_iaload (kd17 rfl) g rfl ?_
  refine r_iconst (kd17 rfl) (y := 1) (by decide) rfl ?_
  refine r_isub (kd17 rfl) rfl ?_
  obtain ⟨g, h⟩ := h
  have h := h _ rfl
  refine r_iastore (kd17 rfl) g rfl ?_
  refine r_iload_n (kd17 rfl) rfl rfl ?_
  exact r_ireturn (kd17 rfl) R17 h
/-- TierMill.fault(I)I -/
theorem kd122 {pc : Nat} {q : eI} (h : e_d122.lookup pc = some q) : e_dec 122 pc = some q := h
theorem L122 : (e_m 122).2.2.1 = 2 := rfl
theorem R122 : (e_m 122).2.2.2.1 = (some .int) := rfl
def w_Mill_fault (l0 : Nat) (l1 : Int32) (M : eM) (Q : Int32 → eM → Prop) : Prop := (l1 = 0 → e_ob M l0 11 ∧ Q (gi M l0 7) M) ∧ (¬ l1 = 0 → (l1 = 1 → e_ob M l0 11 ∧ Q (gi M l0 8) M) ∧ (¬ l1 = 1 → (l1 = 2 → e_ob M l0 11 ∧ Q (gi M l0 9) M) ∧ (¬ l1 = 2 → Q ((-1) : Int32) M)))
theorem b_Mill_fault {d : Nat} {l0 : Nat} {l1 : Int32} {M : eM} {Q : Int32 → eM → Prop} (hd : 0 ≤ d) (h : w_Mill_fault l0 l1 M Q) : e_CI 122 d 0 0 [.ref l0, .int l1] M Q := by
  unfold w_Mill_fault at h
  show e_E 122 d 0 0 0 [(0, .ref l0), (1, .int l1)] [] M (e_QI Q)
  refine r_iload_n (kd122 rfl) rfl rfl ?_
  refine r_tableswitch (kd122 rfl) (u := 43) (qs := [(0, 28), (1, 33), (2, 38)]) rfl rfl rfl (by decide) ?_
  refine ⟨fun c => ?_, fun c => ?_⟩
  · have h := h.1 c
    refine r_aload_n (kd122 rfl) rfl rfl ?_
    obtain ⟨g, h⟩ := h
    refine r_get0 (kd122 rfl) (by decide) rfl g rfl ?_
    exact r_ireturn (kd122 rfl) R122 h
  have h := h.2 c
  refine ⟨fun c => ?_, fun c => ?_⟩
  · have h := h.1 c
    refine r_aload_n (kd122 rfl) rfl rfl ?_
    obtain ⟨g, h⟩ := h
    refine r_get0 (kd122 rfl) (by decide) rfl g rfl ?_
    exact r_ireturn (kd122 rfl) R122 h
  have h := h.2 c
  refine ⟨fun c => ?_, fun c => ?_⟩
  · have h := h.1 c
    refine r_aload_n (kd122 rfl) rfl rfl ?_
    obtain ⟨g, h⟩ := h
    refine r_get0 (kd122 rfl) (by decide) rfl g rfl ?_
    exact r_ireturn (kd122 rfl) R122 h
  have h := h.2 c
  show e_E 122 _ _ _ 43 _ _ _ _
  refine r_iconst (kd122 rfl) (y := (-1)) (by decide) rfl ?_
  exact r_ireturn (kd122 rfl) R122 h
/-- java/lang/Math.max(II)I -/
theorem kd230 {pc : Nat} {q : eI} (h : e_d230.lookup pc = some q) : e_dec 230 pc = some q := h
theorem L230 : (e_m 230).2.2.1 = 2 := rfl
theorem R230 : (e_m 230).2.2.2.1 = (some .int) := rfl
def w_Mth_max_10 (s0 : Int32) (M : eM) (Q : Int32 → eM → Prop) : Prop := Q s0 M
theorem b_Mth_max_10 {d : Nat} {s0 : Int32} {M : eM} {Q : Int32 → eM → Prop} (hd : 0 ≤ d) (h : w_Mth_max_10 s0 M Q ) : e_E 230 d 0 0 10 [] [.int s0] M (e_QI Q) := by
  unfold w_Mth_max_10 at h
  exact r_ireturn (kd230 rfl) R230 h
def w_Mth_max (l0 : Int32) (l1 : Int32) (M : eM) (Q : Int32 → eM → Prop) : Prop := (l0 < l1 → w_Mth_max_10 l1 M Q) ∧ (¬ l0 < l1 → w_Mth_max_10 l0 M Q)
theorem b_Mth_max {d : Nat} {l0 : Int32} {l1 : Int32} {M : eM} {Q : Int32 → eM → Prop} (hd : 0 ≤ d) (h : w_Mth_max l0 l1 M Q) : e_CI 230 d 0 0 [.int l0, .int l1] M Q := by
  unfold w_Mth_max at h
  show e_E 230 d 0 0 0 [(0, .int l0), (1, .int l1)] [] M (e_QI Q)
  refine r_iload_n (kd230 rfl) rfl rfl ?_
  refine r_iload_n (kd230 rfl) rfl rfl ?_
  refine r_icmp_lt (kd230 rfl) rfl (fun c => ?_) (fun c => ?_)
  · have h := h.1 c
    refine r_iload_n (kd230 rfl) rfl rfl ?_
    exact (b_Mth_max_10 hd h).less e_sn
  · have h := h.2 c
    refine r_iload_n (kd230 rfl) rfl rfl ?_
    refine r_goto (kd230 rfl) ?_
    exact (b_Mth_max_10 hd h).less e_sn
/-- TierMill$Plan.find(II)I -/
theorem kd63 {pc : Nat} {q : eI} (h : e_d63.lookup pc = some q) : e_dec 63 pc = some q := h
theorem L63 : (e_m 63).2.2.1 = 5 := rfl
theorem R63 : (e_m 63).2.2.2.1 = (some .int) := rfl
def w_Plan_find_29 : Nat → Nat → Int32 → Int32 → Int32 → eM → (Int32 → eM → Prop) → Prop
  | 0, _, _, _, _, _, _ => False
  | n + 1, l0, l2, l3, l4, M, Q => (l3 ≤ l4 → Q ((-1) : Int32) M) ∧ (¬ l3 ≤ l4 → e_ob M l0 5 ∧ e_ai M (gr M l0 2) ((l4 * 6) + 2) ∧ (¬ (gi M (gr M l0 2) ((l4 * 6) + 2).toNatClampNeg) = l2 → e_ob M l0 5 ∧ e_ai M (gr M l0 2) ((l4 * 6) + 5) ∧ w_Mth_max (l4 + 1) (gi M (gr M l0 2) ((l4 * 6) + 5).toNatClampNeg) M (fun (v3 : Int32) (M2 : eM) => (fun l0 l2 l3 l4 M => w_Plan_find_29 n l0 l2 l3 l4 M Q ) l0 l2 l3 v3 M2)) ∧ ((gi M (gr M l0 2) ((l4 * 6) + 2).toNatClampNeg) = l2 → Q l4 M))
theorem b_Plan_find_29 {d : Nat} {Q : Int32 → eM → Prop} (hd : 1 ≤ d) (n : Nat) : ∀ (l0 : Nat) (l2 : Int32) (l3 : Int32) (l4 : Int32) (M : eM), w_Plan_find_29 n l0 l2 l3 l4 M Q → e_E 63 d 0 0 29 [(0, .ref l0), (2, .int l2), (3, .int l3), (4, .int l4)] [] M (e_QI Q) := by
  induction n with
  | zero => intro l0 l2 l3 l4 M h; exact False.elim h
  | succ n ih =>
    intro l0 l2 l3 l4 M h
    have hk29 := ih
    refine r_iload (kd63 rfl) rfl rfl ?_
    refine r_iload_n (kd63 rfl) rfl rfl ?_
    refine r_icmp_ge (kd63 rfl) rfl (fun c => ?_) (fun c => ?_)
    · have h := h.1 c
      refine r_iconst (kd63 rfl) (y := (-1)) (by decide) rfl ?_
      exact r_ireturn (kd63 rfl) R63 h
    · have h := h.2 c
      refine r_aload_n (kd63 rfl) rfl rfl ?_
      obtain ⟨g, h⟩ := h
      refine r_get2 (kd63 rfl) (by decide) rfl g rfl ?_
      refine r_iload (kd63 rfl) rfl rfl ?_
      refine r_bipush (kd63 rfl) (y := 6) (by decide) rfl ?_
      refine r_imul (kd63 rfl) rfl ?_
      refine r_iconst (kd63 rfl) (y := 2) (by decide) rfl ?_
      refine r_iadd (kd63 rfl) rfl ?_
      obtain ⟨g, h⟩ := h
      refine r_iaload (kd63 rfl) g rfl ?_
      refine r_iload_n (kd63 rfl) rfl rfl ?_
      refine r_icmp_ne (kd63 rfl) rfl (fun c => ?_) (fun c => ?_)
      · have h := h.1 c
        refine r_iload (kd63 rfl) rfl rfl ?_
        refine r_iconst (kd63 rfl) (y := 1) (by decide) rfl ?_
        refine r_iadd (kd63 rfl) rfl ?_
        refine r_aload_n (kd63 rfl) rfl rfl ?_
        obtain ⟨g, h⟩ := h
        refine r_get2 (kd63 rfl) (by decide) rfl g rfl ?_
        refine r_iload (kd63 rfl) rfl rfl ?_
        refine r_bipush (kd63 rfl) (y := 6) (by decide) rfl ?_
        refine r_imul (kd63 rfl) rfl ?_
        refine r_iconst (kd63 rfl) (y := 5) (by decide) rfl ?_
        refine r_iadd (kd63 rfl) rfl ?_
        obtain ⟨g, h⟩ := h
        refine r_iaload (kd63 rfl) g rfl ?_
        refine r_callSI (d' := d - 1) (by omega) (kd63 rfl) (by decide) rfl rfl rfl (Nat.le_of_ble_eq_true rfl) rfl L230 (Nat.le_of_ble_eq_true rfl) (Nat.le_of_ble_eq_true rfl) (Nat.zero_le _) (Nat.zero_le _) rfl rfl rfl (b_Mth_max (by omega) h) (fun x1 M1 h => ?_)
        refine r_istore (kd63 rfl) L63 (by decide) rfl rfl ?_
        refine r_goto (kd63 rfl) ?_
        exact (hk29 _ _ _ _ _ h).less (e_sc (List.mem_of_getElem? (i := 1) rfl) (e_sc (List.mem_of_getElem? (i := 2) rfl) (e_sc (List.mem_of_getElem? (i := 3) rfl) (e_sc (List.mem_of_getElem? (i := 0) rfl) e_sn))))
      · have h := h.2 c
        refine r_iload (kd63 rfl) rfl rfl ?_
        exact r_ireturn (kd63 rfl) R63 h
def w_Plan_find_23 (l0 : Nat) (l1 : Int32) (l2 : Int32) (s0 : Int32) (M : eM) (Q : Int32 → eM → Prop) : Prop := ∃ n1 : Nat, w_Plan_find_29 n1 l0 l2 s0 (l1 + 1) M Q
theorem b_Plan_find_23 {d : Nat} {l0 : Nat} {l1 : Int32} {l2 : Int32} {s0 : Int32} {M : eM} {Q : Int32 → eM → Prop} (hd : 1 ≤ d) (h : w_Plan_find_23 l0 l1 l2 s0 M Q ) : e_E 63 d 0 0 23 [(0, .ref l0), (1, .int l1), (2, .int l2)] [.int s0] M (e_QI Q) := by
  unfold w_Plan_find_23 at h
  refine r_istore_n (kd63 rfl) L63 (by decide) rfl rfl ?_
  refine r_iload_n (kd63 rfl) rfl rfl ?_
  refine r_iconst (kd63 rfl) (y := 1) (by decide) rfl ?_
  refine r_iadd (kd63 rfl) rfl ?_
  refine r_istore (kd63 rfl) L63 (by decide) rfl rfl ?_
  obtain ⟨n, h⟩ := h
  exact (b_Plan_find_29 hd n _ _ _ _ _ h).less (e_sc (List.mem_of_getElem? (i := 2) rfl) (e_sc (List.mem_of_getElem? (i := 4) rfl) (e_sc (List.mem_of_getElem? (i := 1) rfl) (e_sc (List.mem_of_getElem? (i := 0) rfl) e_sn))))
def w_Plan_find (l0 : Nat) (l1 : Int32) (l2 : Int32) (M : eM) (Q : Int32 → eM → Prop) : Prop := (¬ l1 = (-1) → e_ob M l0 5 ∧ e_ai M (gr M l0 2) ((l1 * 6) + 5) ∧ w_Plan_find_23 l0 l1 l2 (gi M (gr M l0 2) ((l1 * 6) + 5).toNatClampNeg) M Q) ∧ (l1 = (-1) → e_ob M l0 5 ∧ w_Plan_find_23 l0 l1 l2 (gi M l0 0) M Q)
theorem b_Plan_find {d : Nat} {l0 : Nat} {l1 : Int32} {l2 : Int32} {M : eM} {Q : Int32 → eM → Prop} (hd : 1 ≤ d) (h : w_Plan_find l0 l1 l2 M Q) : e_CI 63 d 0 0 [.ref l0, .int l1, .int l2] M Q := by
  unfold w_Plan_find at h
  show e_E 63 d 0 0 0 [(0, .ref l0), (1, .int l1), (2, .int l2)] [] M (e_QI Q)
  refine r_iload_n (kd63 rfl) rfl rfl ?_
  refine r_iconst (kd63 rfl) (y := (-1)) (by decide) rfl ?_
  refine r_icmp_ne (kd63 rfl) rfl (fun c => ?_) (fun c => ?_)
  · have h := h.1 c
    refine r_aload_n (kd63 rfl) rfl rfl ?_
    obtain ⟨g, h⟩ := h
    refine r_get2 (kd63 rfl) (by decide) rfl g rfl ?_
    refine r_iload_n (kd63 rfl) rfl rfl ?_
    refine r_bipush (kd63 rfl) (y := 6) (by decide) rfl ?_
    refine r_imul (kd63 rfl) rfl ?_
    refine r_iconst (kd63 rfl) (y := 5) (by decide) rfl ?_
    refine r_iadd (kd63 rfl) rfl ?_
    obtain ⟨g, h⟩ := h
    refine r_iaload (kd63 rfl) g rfl ?_
    exact (b_Plan_find_23 hd h).less (e_sc (List.mem_of_getElem? (i := 0) rfl) (e_sc (List.mem_of_getElem? (i := 1) rfl) (e_sc (List.mem_of_getElem? (i := 2) rfl) e_sn)))
  · have h := h.2 c
    refine r_aload_n (kd63 rfl) rfl rfl ?_
    obtain ⟨g, h⟩ := h
    refine r_get0 (kd63 rfl) (by decide) rfl g rfl ?_
    refine r_goto (kd63 rfl) ?_
    exact (b_Plan_find_23 hd h).less (e_sc (List.mem_of_getElem? (i := 0) rfl) (e_sc (List.mem_of_getElem? (i := 1) rfl) (e_sc (List.mem_of_getElem? (i := 2) rfl) e_sn)))
/-- TierMill$Reader.take(II)I -/
theorem kd73 {pc : Nat} {q : eI} (h : e_d73.lookup pc = some q) : e_dec 73 pc = some q := h
theorem L73 : (e_m 73).2.2.1 = 4 := rfl
theorem R73 : (e_m 73).2.2.2.1 = (some .int) := rfl
def w_Reader_take_60 (l0 : Nat) (l1 : Int32) (M : eM) (Q : Int32 → eM → Prop) : Prop := e_ob M l0 7 ∧ e_ob M l0 7 ∧ ∀ M3 : eM, M3 = e_si M l0 2 (gi M l0 1) → Q l1 M3
theorem b_Reader_take_60 {d : Nat} {l0 : Nat} {l1 : Int32} {M : eM} {Q : Int32 → eM → Prop} (hd : 0 ≤ d) (h : w_Reader_take_60 l0 l1 M Q ) : e_E 73 d 0 0 60 [(0, .ref l0), (1, .int l1)] [] M (e_QI Q) := by
  unfold w_Reader_take_60 at h
  refine r_aload_n (kd73 rfl) rfl rfl ?_
  refine r_aload_n (kd73 rfl) rfl rfl ?_
  obtain ⟨g, h⟩ := h
  refine r_get0 (kd73 rfl) (by decide) rfl g rfl ?_
  obtain ⟨g, h⟩ := h
  have h := h _ rfl
  refine r_put0 (kd73 rfl) (by decide) rfl g rfl ?_
  refine r_iload_n (kd73 rfl) rfl rfl ?_
  exact r_ireturn (kd73 rfl) R73 h
def w_Reader_take (l0 : Nat) (l1 : Int32) (l2 : Int32) (M : eM) (Q : Int32 → eM → Prop) : Prop := e_ob M l0 7 ∧ ((gi M l0 2) = (-1) → e_ob M l0 7 ∧ e_ob M l0 7 ∧ e_ob M (gr M l0 0) 6 ∧ ((gi M l0 1) < (gi M (gr M l0 0) 1) → e_ob M l0 7 ∧ e_ob M (gr M l0 0) 6 ∧ e_ob M l0 7 ∧ e_ai M (gr M (gr M l0 0) 0) (gi M l0 1) ∧ ((gi M (gr M (gr M l0 0) 0) (gi M l0 1).toNatClampNeg) < l1 → w_Reader_take_60 l0 l1 M Q) ∧ (¬ (gi M (gr M (gr M l0 0) 0) (gi M l0 1).toNatClampNeg) < l1 → ((gi M (gr M (gr M l0 0) 0) (gi M l0 1).toNatClampNeg) ≤ l2 → e_ob M l0 7 ∧ e_ob M l0 7 ∧ ∀ M1 : eM, M1 = e_si M l0 1 ((gi M l0 1) + 1) → Q (gi M (gr M (gr M l0 0) 0) (gi M l0 1).toNatClampNeg) M1) ∧ (¬ (gi M (gr M (gr M l0 0) 0) (gi M l0 1).toNatClampNeg) ≤ l2 → w_Reader_take_60 l0 l1 M Q))) ∧ (¬ (gi M l0 1) < (gi M (gr M l0 0) 1) → e_ob M l0 7 ∧ e_ob M (gr M l0 0) 6 ∧ e_ob M l0 7 ∧ ∀ M2 : eM, M2 = e_si M l0 2 (gi M (gr M l0 0) 1) → Q l1 M2)) ∧ (¬ (gi M l0 2) = (-1) → Q l1 M)
theorem b_Reader_take {d : Nat} {l0 : Nat} {l1 : Int32} {l2 : Int32} {M : eM} {Q : Int32 → eM → Prop} (hd : 0 ≤ d) (h : w_Reader_take l0 l1 l2 M Q) : e_CI 73 d 0 0 [.ref l0, .int l1, .int l2] M Q := by
  unfold w_Reader_take at h
  show e_E 73 d 0 0 0 [(0, .ref l0), (1, .int l1), (2, .int l2)] [] M (e_QI Q)
  refine r_aload_n (kd73 rfl) rfl rfl ?_
  obtain ⟨g, h⟩ := h
  refine r_get0 (kd73 rfl) (by decide) rfl g rfl ?_
  refine r_iconst (kd73 rfl) (y := (-1)) (by decide) rfl ?_
  refine r_icmp_eq (kd73 rfl) rfl (fun c => ?_) (fun c => ?_)
  · have h := h.1 c
    refine r_aload_n (kd73 rfl) rfl rfl ?_
    obtain ⟨g, h⟩ := h
    refine r_get0 (kd73 rfl) (by decide) rfl g rfl ?_
    refine r_aload_n (kd73 rfl) rfl rfl ?_
    obtain ⟨g, h⟩ := h
    refine r_get2 (kd73 rfl) (by decide) rfl g rfl ?_
    obtain ⟨g, h⟩ := h
    refine r_get0 (kd73 rfl) (by decide) rfl g rfl ?_
    refine r_icmp_lt (kd73 rfl) rfl (fun c => ?_) (fun c => ?_)
    · have h := h.1 c
      refine r_aload_n (kd73 rfl) rfl rfl ?_
      obtain ⟨g, h⟩ := h
      refine r_get2 (kd73 rfl) (by decide) rfl g rfl ?_
      obtain ⟨g, h⟩ := h
      refine r_get2 (kd73 rfl) (by decide) rfl g rfl ?_
      refine r_aload_n (kd73 rfl) rfl rfl ?_
      obtain ⟨g, h⟩ := h
      refine r_get0 (kd73 rfl) (by decide) rfl g rfl ?_
      obtain ⟨g, h⟩ := h
      refine r_iaload (kd73 rfl) g rfl ?_
      refine r_istore_n (kd73 rfl) L73 (by decide) rfl rfl ?_
      refine r_iload_n (kd73 rfl) rfl rfl ?_
      refine r_iload_n (kd73 rfl) rfl rfl ?_
      refine r_icmp_lt (kd73 rfl) rfl (fun c => ?_) (fun c => ?_)
      · have h := h.1 c
        exact (b_Reader_take_60 hd h).less (e_sc (List.mem_of_getElem? (i := 1) rfl) (e_sc (List.mem_of_getElem? (i := 2) rfl) e_sn))
      · have h := h.2 c
        refine r_iload_n (kd73 rfl) rfl rfl ?_
        refine r_iload_n (kd73 rfl) rfl rfl ?_
        refine r_icmp_le (kd73 rfl) rfl (fun c => ?_) (fun c => ?_)
        · have h := h.1 c
          refine r_aload_n (kd73 rfl) rfl rfl ?_
          refine r_dup (kd73 rfl) rfl rfl ?_
          obtain ⟨g, h⟩ := h
          refine r_get0 (kd73 rfl) (by decide) rfl g rfl ?_
          refine r_iconst (kd73 rfl) (y := 1) (by decide) rfl ?_
          refine r_iadd (kd73 rfl) rfl ?_
          obtain ⟨g, h⟩ := h
          have h := h _ rfl
          refine r_put0 (kd73 rfl) (by decide) rfl g rfl ?_
          refine r_iload_n (kd73 rfl) rfl rfl ?_
          exact r_ireturn (kd73 rfl) R73 h
        · have h := h.2 c
          exact (b_Reader_take_60 hd h).less (e_sc (List.mem_of_getElem? (i := 1) rfl) (e_sc (List.mem_of_getElem? (i := 2) rfl) e_sn))
    · have h := h.2 c
      refine r_aload_n (kd73 rfl) rfl rfl ?_
      refine r_aload_n (kd73 rfl) rfl rfl ?_
      obtain ⟨g, h⟩ := h
      refine r_get2 (kd73 rfl) (by decide) rfl g rfl ?_
      obtain ⟨g, h⟩ := h
      refine r_get0 (kd73 rfl) (by decide) rfl g rfl ?_
      obtain ⟨g, h⟩ := h
      have h := h _ rfl
      refine r_put0 (kd73 rfl) (by decide) rfl g rfl ?_
      refine r_iload_n (kd73 rfl) rfl rfl ?_
      exact r_ireturn (kd73 rfl) R73 h
  · have h := h.2 c
    refine r_iload_n (kd73 rfl) rfl rfl ?_
    exact r_ireturn (kd73 rfl) R73 h
/-- TierMill$Reader.takeType(I)I -/
theorem kd74 {pc : Nat} {q : eI} (h : e_d74.lookup pc = some q) : e_dec 74 pc = some q := h
theorem L74 : (e_m 74).2.2.1 = 3 := rfl
theorem R74 : (e_m 74).2.2.2.1 = (some .int) := rfl
def w_Reader_takeType_39 (l2 : Int32) (M : eM) (Q : Int32 → eM → Prop) : Prop := Q l2 M
theorem b_Reader_takeType_39 {d : Nat} {l2 : Int32} {M : eM} {Q : Int32 → eM → Prop} (hd : 1 ≤ d) (h : w_Reader_takeType_39 l2 M Q ) : e_E 74 d 0 0 39 [(2, .int l2)] [] M (e_QI Q) := by
  unfold w_Reader_takeType_39 at h
  refine r_iload_n (kd74 rfl) rfl rfl ?_
  exact r_ireturn (kd74 rfl) R74 h
def w_Reader_takeType (l0 : Nat) (l1 : Int32) (M : eM) (Q : Int32 → eM → Prop) : Prop := e_ob M l0 7 ∧ e_ob M (gr M l0 0) 6 ∧ e_ob M l0 7 ∧ w_Reader_take l0 l1 ((16 + (gi M (gr M l0 0) 2)) - 1) M (fun (v2 : Int32) (M1 : eM) => (v2 ≤ 2 → w_Reader_takeType_39 v2 M1 Q) ∧ (¬ v2 ≤ 2 → (16 ≤ v2 → w_Reader_takeType_39 v2 M1 Q) ∧ (¬ 16 ≤ v2 → e_ob M1 l0 7 ∧ e_ob M1 l0 7 ∧ ∀ M3 : eM, M3 = e_si M1 l0 2 ((gi M1 l0 1) - 1) → w_Reader_takeType_39 v2 M3 Q)))
theorem b_Reader_takeType {d : Nat} {l0 : Nat} {l1 : Int32} {M : eM} {Q : Int32 → eM → Prop} (hd : 1 ≤ d) (h : w_Reader_takeType l0 l1 M Q) : e_CI 74 d 0 0 [.ref l0, .int l1] M Q := by
  unfold w_Reader_takeType at h
  show e_E 74 d 0 0 0 [(0, .ref l0), (1, .int l1)] [] M (e_QI Q)
  refine r_aload_n (kd74 rfl) rfl rfl ?_
  refine r_iload_n (kd74 rfl) rfl rfl ?_
  refine r_bipush (kd74 rfl) (y := 16) (by decide) rfl ?_
  refine r_aload_n (kd74 rfl) rfl rfl ?_
  obtain ⟨g, h⟩ := h
  refine r_get2 (kd74 rfl) (by decide) rfl g rfl ?_
  obtain ⟨g, h⟩ := h
  refine r_get0 (kd74 rfl) (by decide) rfl g rfl ?_
  refine r_iadd (kd74 rfl) rfl ?_
  refine r_iconst (kd74 rfl) (y := 1) (by decide) rfl ?_
  refine r_isub (kd74 rfl) rfl ?_
  obtain ⟨g, h⟩ := h
  refine r_callVI (d' := d - 1) (by omega) (kd74 rfl) (by decide) rfl rfl rfl (Nat.le_of_ble_eq_true rfl) rfl L73 (Nat.le_of_ble_eq_true rfl) (Nat.le_of_ble_eq_true rfl) g (Nat.zero_le _) (Nat.zero_le _) rfl rfl rfl (b_Reader_take (by omega) h) (fun x1 M1 h => ?_)
  refine r_istore_n (kd74 rfl) L74 (by decide) rfl rfl ?_
  refine r_iload_n (kd74 rfl) rfl rfl ?_
  refine r_iconst (kd74 rfl) (y := 2) (by decide) rfl ?_
  refine r_icmp_le (kd74 rfl) rfl (fun c => ?_) (fun c => ?_)
  · have h := h.1 c
    exact (b_Reader_takeType_39 hd h).less (e_sc (List.mem_of_getElem? (i := 0) rfl) e_sn)
  · have h := h.2 c
    refine r_iload_n (kd74 rfl) rfl rfl ?_
    refine r_bipush (kd74 rfl) (y := 16) (by decide) rfl ?_
    refine r_icmp_ge (kd74 rfl) rfl (fun c => ?_) (fun c => ?_)
    · have h := h.1 c
      exact (b_Reader_takeType_39 hd h).less (e_sc (List.mem_of_getElem? (i := 0) rfl) e_sn)
    · have h := h.2 c
      refine r_aload_n (kd74 rfl) rfl rfl ?_
      refine r_aload_n (kd74 rfl) rfl rfl ?_
      obtain ⟨g, h⟩ := h
      refine r_get0 (kd74 rfl) (by decide) rfl g rfl ?_
      refine r_iconst (kd74 rfl) (y := 1) (by decide) rfl ?_
      refine r_isub (kd74 rfl) rfl ?_
      obtain ⟨g, h⟩ := h
      have h := h _ rfl
      refine r_put0 (kd74 rfl) (by decide) rfl g rfl ?_
      exact (b_Reader_takeType_39 hd h).less (e_sc (List.mem_of_getElem? (i := 0) rfl) e_sn)
/-- TierMill.put(JI)Z -/
theorem kd119 {pc : Nat} {q : eI} (h : e_d119.lookup pc = some q) : e_dec 119 pc = some q := h
theorem L119 : (e_m 119).2.2.1 = 5 := rfl
theorem R119 : (e_m 119).2.2.2.1 = (some .boolean) := rfl
def w_Mill_put_26 (M : eM) (Q : Int32 → eM → Prop) : Prop := ((0 : Int32) = 0 ∨ (0 : Int32) = 1) ∧ Q (0 : Int32) M
theorem b_Mill_put_26 {d : Nat} {M : eM} {Q : Int32 → eM → Prop} (hd : 0 ≤ d) (h : w_Mill_put_26 M Q ) : e_E 119 d 0 0 26 [] [] M (e_QI Q) := by
  unfold w_Mill_put_26 at h
  refine r_iconst (kd119 rfl) (y := 0) (by decide) rfl ?_
  exact r_zreturn (kd119 rfl) R119 h.1 h.2
def w_Mill_put_33 : Nat → Nat → Int64 → Int32 → eM → (Int32 → eM → Prop) → Prop
  | 0, _, _, _, _, _ => False
  | n + 1, l0, l1, l4, M, Q => (l4 < 0 → ((1 : Int32) = 0 ∨ (1 : Int32) = 1) ∧ Q (1 : Int32) M) ∧ (¬ l4 < 0 → e_ob M l0 11 ∧ e_ob M (gr M l0 6) 6 ∧ e_ob M l0 11 ∧ e_ob M (gr M l0 6) 6 ∧ e_ar M (gr M (gr M l0 6) 0) 20 (gi M (gr M l0 6) 1) ∧ ∀ M2 : eM, M2 = e_si M (gr M (gr M l0 6) 0) (gi M (gr M l0 6) 1).toNatClampNeg ((((l1.toUInt64 >>> ((8 * l4).toInt64.toUInt64 &&& Int64.toUInt64 63)).toInt64).toInt32) &&& 255) → e_ob M2 l0 11 ∧ e_ob M2 (gr M2 l0 6) 6 ∧ e_ob M2 (gr M2 l0 6) 6 ∧ ∀ M3 : eM, M3 = e_si M2 (gr M2 l0 6) 1 ((gi M2 (gr M2 l0 6) 1) + 1) → (fun l0 l1 l4 M => w_Mill_put_33 n l0 l1 l4 M Q ) l0 l1 (l4 + (-1)) M3)
theorem b_Mill_put_33 {d : Nat} {Q : Int32 → eM → Prop} (hd : 0 ≤ d) (n : Nat) : ∀ (l0 : Nat) (l1 : Int64) (l4 : Int32) (M : eM), w_Mill_put_33 n l0 l1 l4 M Q → e_E 119 d 0 0 33 [(0, .ref l0), (1, .long l1), (4, .int l4)] [] M (e_QI Q) := by
  induction n with
  | zero => intro l0 l1 l4 M h; exact False.elim h
  | succ n ih =>
    intro l0 l1 l4 M h
    have hk33 := ih
    refine r_iload (kd119 rfl) rfl rfl ?_
    refine r_if_lt (kd119 rfl) rfl (fun c => ?_) (fun c => ?_)
    · have h := h.1 c
      refine r_iconst (kd119 rfl) (y := 1) (by decide) rfl ?_
      exact r_zreturn (kd119 rfl) R119 h.1 h.2
    · have h := h.2 c
      refine r_aload_n (kd119 rfl) rfl rfl ?_
      obtain ⟨g, h⟩ := h
      refine r_get2 (kd119 rfl) (by decide) rfl g rfl ?_
      obtain ⟨g, h⟩ := h
      refine r_get2 (kd119 rfl) (by decide) rfl g rfl ?_
      refine r_aload_n (kd119 rfl) rfl rfl ?_
      obtain ⟨g, h⟩ := h
      refine r_get2 (kd119 rfl) (by decide) rfl g rfl ?_
      obtain ⟨g, h⟩ := h
      refine r_get0 (kd119 rfl) (by decide) rfl g rfl ?_
      refine r_lload_n (kd119 rfl) rfl rfl ?_
      refine r_bipush (kd119 rfl) (y := 8) (by decide) rfl ?_
      refine r_iload (kd119 rfl) rfl rfl ?_
      refine r_imul (kd119 rfl) rfl ?_
      refine r_lushr (kd119 rfl) rfl ?_
      refine r_l2i (kd119 rfl) rfl ?_
      refine r_sipush (kd119 rfl) (y := 255) (by decide) rfl ?_
      refine r_iand (kd119 rfl) rfl ?_
      obtain ⟨g, h⟩ := h
      have h := h _ rfl
      refine r_iastore (kd119 rfl) g rfl ?_
      refine r_aload_n (kd119 rfl) rfl rfl ?_
      obtain ⟨g, h⟩ := h
      refine r_get2 (kd119 rfl) (by decide) rfl g rfl ?_
      refine r_dup (kd119 rfl) rfl rfl ?_
      obtain ⟨g, h⟩ := h
      refine r_get0 (kd119 rfl) (by decide) rfl g rfl ?_
      refine r_iconst (kd119 rfl) (y := 1) (by decide) rfl ?_
      refine r_iadd (kd119 rfl) rfl ?_
      obtain ⟨g, h⟩ := h
      have h := h _ rfl
      refine r_put0 (kd119 rfl) (by decide) rfl g rfl ?_
      refine r_iinc (kd119 rfl) rfl (y := (-1)) (by decide) L119 (by decide) rfl rfl ?_
      refine r_goto (kd119 rfl) ?_
      exact (hk33 _ _ _ _ h).less (e_sc (List.mem_of_getElem? (i := 1) rfl) (e_sc (List.mem_of_getElem? (i := 2) rfl) (e_sc (List.mem_of_getElem? (i := 0) rfl) e_sn)))
def w_Mill_put (l0 : Nat) (l1 : Int64) (l3 : Int32) (M : eM) (Q : Int32 → eM → Prop) : Prop := (l3 < 1 → w_Mill_put_26 M Q) ∧ (¬ l3 < 1 → (8 < l3 → w_Mill_put_26 M Q) ∧ (¬ 8 < l3 → e_ob M l0 11 ∧ e_ob M (gr M l0 6) 6 ∧ (((gi M (gr M l0 6) 1) + l3) ≤ 1500 → ∃ n1 : Nat, w_Mill_put_33 n1 l0 l1 (l3 - 1) M Q) ∧ (¬ ((gi M (gr M l0 6) 1) + l3) ≤ 1500 → w_Mill_put_26 M Q)))
theorem b_Mill_put {d : Nat} {l0 : Nat} {l1 : Int64} {l3 : Int32} {M : eM} {Q : Int32 → eM → Prop} (hd : 0 ≤ d) (h : w_Mill_put l0 l1 l3 M Q) : e_CI 119 d 0 0 [.ref l0, .long l1, .int l3] M Q := by
  unfold w_Mill_put at h
  show e_E 119 d 0 0 0 [(0, .ref l0), (1, .long l1), (3, .int l3)] [] M (e_QI Q)
  refine r_iload_n (kd119 rfl) rfl rfl ?_
  refine r_iconst (kd119 rfl) (y := 1) (by decide) rfl ?_
  refine r_icmp_lt (kd119 rfl) rfl (fun c => ?_) (fun c => ?_)
  · have h := h.1 c
    exact (b_Mill_put_26 hd h).less e_sn
  · have h := h.2 c
    refine r_iload_n (kd119 rfl) rfl rfl ?_
    refine r_bipush (kd119 rfl) (y := 8) (by decide) rfl ?_
    refine r_icmp_gt (kd119 rfl) rfl (fun c => ?_) (fun c => ?_)
    · have h := h.1 c
      exact (b_Mill_put_26 hd h).less e_sn
    · have h := h.2 c
      refine r_aload_n (kd119 rfl) rfl rfl ?_
      obtain ⟨g, h⟩ := h
      refine r_get2 (kd119 rfl) (by decide) rfl g rfl ?_
      obtain ⟨g, h⟩ := h
      refine r_get0 (kd119 rfl) (by decide) rfl g rfl ?_
      refine r_iload_n (kd119 rfl) rfl rfl ?_
      refine r_iadd (kd119 rfl) rfl ?_
      refine r_sipush (kd119 rfl) (y := 1500) (by decide) rfl ?_
      refine r_icmp_le (kd119 rfl) rfl (fun c => ?_) (fun c => ?_)
      · have h := h.1 c
        refine r_iload_n (kd119 rfl) rfl rfl ?_
        refine r_iconst (kd119 rfl) (y := 1) (by decide) rfl ?_
        refine r_isub (kd119 rfl) rfl ?_
        refine r_istore (kd119 rfl) L119 (by decide) rfl rfl ?_
        obtain ⟨n, h⟩ := h
        exact (b_Mill_put_33 hd n _ _ _ _ h).less (e_sc (List.mem_of_getElem? (i := 1) rfl) (e_sc (List.mem_of_getElem? (i := 2) rfl) (e_sc (List.mem_of_getElem? (i := 0) rfl) e_sn)))
      · have h := h.2 c
        exact (b_Mill_put_26 hd h).less e_sn
/-- TierMill$Program.isReference(I)Z -/
theorem kd70 {pc : Nat} {q : eI} (h : e_d70.lookup pc = some q) : e_dec 70 pc = some q := h
theorem L70 : (e_m 70).2.2.1 = 1 := rfl
theorem R70 : (e_m 70).2.2.2.1 = (some .boolean) := rfl
def w_Program_isReference_16 (s0 : Int32) (M : eM) (Q : Int32 → eM → Prop) : Prop := (s0 = 0 ∨ s0 = 1) ∧ Q s0 M
theorem b_Program_isReference_16 {d : Nat} {s0 : Int32} {M : eM} {Q : Int32 → eM → Prop} (hd : 0 ≤ d) (h : w_Program_isReference_16 s0 M Q ) : e_E 70 d 0 0 16 [] [.int s0] M (e_QI Q) := by
  unfold w_Program_isReference_16 at h
  exact r_zreturn (kd70 rfl) R70 h.1 h.2
def w_Program_isReference_11 (M : eM) (Q : Int32 → eM → Prop) : Prop := w_Program_isReference_16 1 M Q
theorem b_Program_isReference_11 {d : Nat} {M : eM} {Q : Int32 → eM → Prop} (hd : 0 ≤ d) (h : w_Program_isReference_11 M Q ) : e_E 70 d 0 0 11 [] [] M (e_QI Q) := by
  unfold w_Program_isReference_11 at h
  refine r_iconst (kd70 rfl) (y := 1) (by decide) rfl ?_
  refine r_goto (kd70 rfl) ?_
  exact (b_Program_isReference_16 hd h).less e_sn
def w_Program_isReference (l0 : Int32) (M : eM) (Q : Int32 → eM → Prop) : Prop := (l0 = 2 → w_Program_isReference_11 M Q) ∧ (¬ l0 = 2 → (l0 < 15 → w_Program_isReference_16 0 M Q) ∧ (¬ l0 < 15 → w_Program_isReference_11 M Q))
theorem b_Program_isReference {d : Nat} {l0 : Int32} {M : eM} {Q : Int32 → eM → Prop} (hd : 0 ≤ d) (h : w_Program_isReference l0 M Q) : e_CI 70 d 0 0 [.int l0] M Q := by
  unfold w_Program_isReference at h
  show e_E 70 d 0 0 0 [(0, .int l0)] [] M (e_QI Q)
  refine r_iload_n (kd70 rfl) rfl rfl ?_
  refine r_iconst (kd70 rfl) (y := 2) (by decide) rfl ?_
  refine r_icmp_eq (kd70 rfl) rfl (fun c => ?_) (fun c => ?_)
  · have h := h.1 c
    exact (b_Program_isReference_11 hd h).less e_sn
  · have h := h.2 c
    refine r_iload_n (kd70 rfl) rfl rfl ?_
    refine r_bipush (kd70 rfl) (y := 15) (by decide) rfl ?_
    refine r_icmp_lt (kd70 rfl) rfl (fun c => ?_) (fun c => ?_)
    · have h := h.1 c
      refine r_iconst (kd70 rfl) (y := 0) (by decide) rfl ?_
      exact (b_Program_isReference_16 hd h).less e_sn
    · have h := h.2 c
      exact (b_Program_isReference_11 hd h).less e_sn
/-- TierMill$Verifier.join(II)I -/
theorem kd109 {pc : Nat} {q : eI} (h : e_d109.lookup pc = some q) : e_dec 109 pc = some q := h
theorem L109 : (e_m 109).2.2.1 = 5 := rfl
theorem R109 : (e_m 109).2.2.2.1 = (some .int) := rfl
def w_Verifier_join_17 (l2 : Int32) (M : eM) (Q : Int32 → eM → Prop) : Prop := Q l2 M
theorem b_Verifier_join_17 {d : Nat} {l2 : Int32} {M : eM} {Q : Int32 → eM → Prop} (hd : 1 ≤ d) (h : w_Verifier_join_17 l2 M Q ) : e_E 109 d 0 0 17 [(2, .int l2)] [] M (e_QI Q) := by
  unfold w_Verifier_join_17 at h
  refine r_iload_n (kd109 rfl) rfl rfl ?_
  exact r_ireturn (kd109 rfl) R109 h
def w_Verifier_join_45 (M : eM) (Q : Int32 → eM → Prop) : Prop := Q (0 : Int32) M
theorem b_Verifier_join_45 {d : Nat} {M : eM} {Q : Int32 → eM → Prop} (hd : 1 ≤ d) (h : w_Verifier_join_45 M Q ) : e_E 109 d 0 0 45 [] [] M (e_QI Q) := by
  unfold w_Verifier_join_45 at h
  refine r_iconst (kd109 rfl) (y := 0) (by decide) rfl ?_
  exact r_ireturn (kd109 rfl) R109 h
def w_Verifier_join_93 : Nat → Int32 → Int32 → eM → (Int32 → eM → Prop) → Prop
  | 0, _, _, _, _ => False
  | n + 1, l3, l4, M, Q => (l4 < 0 → Q (15 : Int32) M) ∧ (¬ l4 < 0 → (((l3 >>> (l4 &&& 31)) &&& 1) = 0 → (fun l3 l4 M => w_Verifier_join_93 n l3 l4 M Q ) l3 (l4 + (-1)) M) ∧ (¬ ((l3 >>> (l4 &&& 31)) &&& 1) = 0 → Q (16 + l4) M))
theorem b_Verifier_join_93 {d : Nat} {Q : Int32 → eM → Prop} (hd : 1 ≤ d) (n : Nat) : ∀ (l3 : Int32) (l4 : Int32) (M : eM), w_Verifier_join_93 n l3 l4 M Q → e_E 109 d 0 0 93 [(3, .int l3), (4, .int l4)] [] M (e_QI Q) := by
  induction n with
  | zero => intro l3 l4 M h; exact False.elim h
  | succ n ih =>
    intro l3 l4 M h
    have hk93 := ih
    refine r_iload (kd109 rfl) rfl rfl ?_
    refine r_if_lt (kd109 rfl) rfl (fun c => ?_) (fun c => ?_)
    · have h := h.1 c
      refine r_bipush (kd109 rfl) (y := 15) (by decide) rfl ?_
      exact r_ireturn (kd109 rfl) R109 h
    · have h := h.2 c
      refine r_iload_n (kd109 rfl) rfl rfl ?_
      refine r_iload (kd109 rfl) rfl rfl ?_
      refine r_ishr (kd109 rfl) rfl ?_
      refine r_iconst (kd109 rfl) (y := 1) (by decide) rfl ?_
      refine r_iand (kd109 rfl) rfl ?_
      refine r_if_eq (kd109 rfl) rfl (fun c => ?_) (fun c => ?_)
      · have h := h.1 c
        refine r_iinc (kd109 rfl) rfl (y := (-1)) (by decide) L109 (by decide) rfl rfl ?_
        refine r_goto (kd109 rfl) ?_
        exact (hk93 _ _ _ h).less (e_sc (List.mem_of_getElem? (i := 1) rfl) (e_sc (List.mem_of_getElem? (i := 0) rfl) e_sn))
      · have h := h.2 c
        refine r_bipush (kd109 rfl) (y := 16) (by decide) rfl ?_
        refine r_iload (kd109 rfl) rfl rfl ?_
        refine r_iadd (kd109 rfl) rfl ?_
        exact r_ireturn (kd109 rfl) R109 h
def w_Verifier_join_88 (s0 : Int32) (M : eM) (Q : Int32 → eM → Prop) : Prop := ∃ n5 : Nat, w_Verifier_join_93 n5 s0 7 M Q
theorem b_Verifier_join_88 {d : Nat} {s0 : Int32} {M : eM} {Q : Int32 → eM → Prop} (hd : 1 ≤ d) (h : w_Verifier_join_88 s0 M Q ) : e_E 109 d 0 0 88 [] [.int s0] M (e_QI Q) := by
  unfold w_Verifier_join_88 at h
  refine r_istore_n (kd109 rfl) L109 (by decide) rfl rfl ?_
  refine r_bipush (kd109 rfl) (y := 7) (by decide) rfl ?_
  refine r_istore (kd109 rfl) L109 (by decide) rfl rfl ?_
  obtain ⟨n, h⟩ := h
  exact (b_Verifier_join_93 hd n _ _ _ h).less (e_sc (List.mem_of_getElem? (i := 1) rfl) (e_sc (List.mem_of_getElem? (i := 0) rfl) e_sn))
def w_Verifier_join_59 (M : eM) (Q : Int32 → eM → Prop) : Prop := w_Verifier_join_88 0 M Q
theorem b_Verifier_join_59 {d : Nat} {M : eM} {Q : Int32 → eM → Prop} (hd : 1 ≤ d) (h : w_Verifier_join_59 M Q ) : e_E 109 d 0 0 59 [] [] M (e_QI Q) := by
  unfold w_Verifier_join_59 at h
  refine r_iconst (kd109 rfl) (y := 0) (by decide) rfl ?_
  refine r_goto (kd109 rfl) ?_
  exact (b_Verifier_join_88 hd h).less e_sn
def w_Verifier_join_33 (l0 : Nat) (l1 : Int32) (l2 : Int32) (M : eM) (Q : Int32 → eM → Prop) : Prop := (l1 < 15 → w_Verifier_join_45 M Q) ∧ (¬ l1 < 15 → (15 ≤ l2 → (l1 = 15 → w_Verifier_join_59 M Q) ∧ (¬ l1 = 15 → (¬ l2 = 15 → e_ob M l0 10 ∧ e_ob M (gr M l0 3) 6 ∧ e_ai M (gr M (gr M l0 3) 4) (l1 - 16) ∧ e_ob M l0 10 ∧ e_ob M (gr M l0 3) 6 ∧ e_ai M (gr M (gr M l0 3) 4) (l2 - 16) ∧ w_Verifier_join_88 ((gi M (gr M (gr M l0 3) 4) (l1 - 16).toNatClampNeg) &&& (gi M (gr M (gr M l0 3) 4) (l2 - 16).toNatClampNeg)) M Q) ∧ (l2 = 15 → w_Verifier_join_59 M Q))) ∧ (¬ 15 ≤ l2 → w_Verifier_join_45 M Q))
theorem b_Verifier_join_33 {d : Nat} {l0 : Nat} {l1 : Int32} {l2 : Int32} {M : eM} {Q : Int32 → eM → Prop} (hd : 1 ≤ d) (h : w_Verifier_join_33 l0 l1 l2 M Q ) : e_E 109 d 0 0 33 [(0, .ref l0), (1, .int l1), (2, .int l2)] [] M (e_QI Q) := by
  unfold w_Verifier_join_33 at h
  refine r_iload_n (kd109 rfl) rfl rfl ?_
  refine r_bipush (kd109 rfl) (y := 15) (by decide) rfl ?_
  refine r_icmp_lt (kd109 rfl) rfl (fun c => ?_) (fun c => ?_)
  · have h := h.1 c
    exact (b_Verifier_join_45 hd h).less e_sn
  · have h := h.2 c
    refine r_iload_n (kd109 rfl) rfl rfl ?_
    refine r_bipush (kd109 rfl) (y := 15) (by decide) rfl ?_
    refine r_icmp_ge (kd109 rfl) rfl (fun c => ?_) (fun c => ?_)
    · have h := h.1 c
      refine r_iload_n (kd109 rfl) rfl rfl ?_
      refine r_bipush (kd109 rfl) (y := 15) (by decide) rfl ?_
      refine r_icmp_eq (kd109 rfl) rfl (fun c => ?_) (fun c => ?_)
      · have h := h.1 c
        exact (b_Verifier_join_59 hd h).less e_sn
      · have h := h.2 c
        refine r_iload_n (kd109 rfl) rfl rfl ?_
        refine r_bipush (kd109 rfl) (y := 15) (by decide) rfl ?_
        refine r_icmp_ne (kd109 rfl) rfl (fun c => ?_) (fun c => ?_)
        · have h := h.1 c
          refine r_aload_n (kd109 rfl) rfl rfl ?_
          obtain ⟨g, h⟩ := h
          refine r_get2 (kd109 rfl) (by decide) rfl g rfl ?_
          obtain ⟨g, h⟩ := h
          refine r_get2 (kd109 rfl) (by decide) rfl g rfl ?_
          refine r_iload_n (kd109 rfl) rfl rfl ?_
          refine r_bipush (kd109 rfl) (y := 16) (by decide) rfl ?_
          refine r_isub (kd109 rfl) rfl ?_
          obtain ⟨g, h⟩ := h
          refine r_iaload (kd109 rfl) g rfl ?_
          refine r_aload_n (kd109 rfl) rfl rfl ?_
          obtain ⟨g, h⟩ := h
          refine r_get2 (kd109 rfl) (by decide) rfl g rfl ?_
          obtain ⟨g, h⟩ := h
          refine r_get2 (kd109 rfl) (by decide) rfl g rfl ?_
          refine r_iload_n (kd109 rfl) rfl rfl ?_
          refine r_bipush (kd109 rfl) (y := 16) (by decide) rfl ?_
          refine r_isub (kd109 rfl) rfl ?_
          obtain ⟨g, h⟩ := h
          refine r_iaload (kd109 rfl) g rfl ?_
          refine r_iand (kd109 rfl) rfl ?_
          exact (b_Verifier_join_88 hd h).less e_sn
        · have h := h.2 c
          exact (b_Verifier_join_59 hd h).less e_sn
    · have h := h.2 c
      exact (b_Verifier_join_45 hd h).less e_sn
def w_Verifier_join_19 (l0 : Nat) (l1 : Int32) (l2 : Int32) (M : eM) (Q : Int32 → eM → Prop) : Prop := (¬ l2 = 3 → w_Verifier_join_33 l0 l1 l2 M Q) ∧ (l2 = 3 → w_Program_isReference l1 M (fun (v4 : Int32) (M3 : eM) => (v4 = 0 → w_Verifier_join_33 l0 l1 l2 M3 Q) ∧ (¬ v4 = 0 → Q l1 M3)))
theorem b_Verifier_join_19 {d : Nat} {l0 : Nat} {l1 : Int32} {l2 : Int32} {M : eM} {Q : Int32 → eM → Prop} (hd : 1 ≤ d) (h : w_Verifier_join_19 l0 l1 l2 M Q ) : e_E 109 d 0 0 19 [(0, .ref l0), (1, .int l1), (2, .int l2)] [] M (e_QI Q) := by
  unfold w_Verifier_join_19 at h
  refine r_iload_n (kd109 rfl) rfl rfl ?_
  refine r_iconst (kd109 rfl) (y := 3) (by decide) rfl ?_
  refine r_icmp_ne (kd109 rfl) rfl (fun c => ?_) (fun c => ?_)
  · have h := h.1 c
    exact (b_Verifier_join_33 hd h).less (e_sc (List.mem_of_getElem? (i := 0) rfl) (e_sc (List.mem_of_getElem? (i := 1) rfl) (e_sc (List.mem_of_getElem? (i := 2) rfl) e_sn)))
  · have h := h.2 c
    refine r_iload_n (kd109 rfl) rfl rfl ?_
    refine r_callSI (d' := d - 1) (by omega) (kd109 rfl) (by decide) rfl rfl rfl (Nat.le_of_ble_eq_true rfl) rfl L70 (Nat.le_of_ble_eq_true rfl) (Nat.le_of_ble_eq_true rfl) (Nat.zero_le _) (Nat.zero_le _) rfl rfl rfl (b_Program_isReference (by omega) h) (fun x1 M1 h => ?_)
    refine r_if_eq (kd109 rfl) rfl (fun c => ?_) (fun c => ?_)
    · have h := h.1 c
      exact (b_Verifier_join_33 hd h).less (e_sc (List.mem_of_getElem? (i := 0) rfl) (e_sc (List.mem_of_getElem? (i := 1) rfl) (e_sc (List.mem_of_getElem? (i := 2) rfl) e_sn)))
    · have h := h.2 c
      refine r_iload_n (kd109 rfl) rfl rfl ?_
      exact r_ireturn (kd109 rfl) R109 h
def w_Verifier_join (l0 : Nat) (l1 : Int32) (l2 : Int32) (M : eM) (Q : Int32 → eM → Prop) : Prop := (l1 = l2 → w_Verifier_join_17 l2 M Q) ∧ (¬ l1 = l2 → (¬ l1 = 3 → w_Verifier_join_19 l0 l1 l2 M Q) ∧ (l1 = 3 → w_Program_isReference l2 M (fun (v2 : Int32) (M1 : eM) => (v2 = 0 → w_Verifier_join_19 l0 l1 l2 M1 Q) ∧ (¬ v2 = 0 → w_Verifier_join_17 l2 M1 Q))))
theorem b_Verifier_join {d : Nat} {l0 : Nat} {l1 : Int32} {l2 : Int32} {M : eM} {Q : Int32 → eM → Prop} (hd : 1 ≤ d) (h : w_Verifier_join l0 l1 l2 M Q) : e_CI 109 d 0 0 [.ref l0, .int l1, .int l2] M Q := by
  unfold w_Verifier_join at h
  show e_E 109 d 0 0 0 [(0, .ref l0), (1, .int l1), (2, .int l2)] [] M (e_QI Q)
  refine r_iload_n (kd109 rfl) rfl rfl ?_
  refine r_iload_n (kd109 rfl) rfl rfl ?_
  refine r_icmp_eq (kd109 rfl) rfl (fun c => ?_) (fun c => ?_)
  · have h := h.1 c
    exact (b_Verifier_join_17 hd h).less (e_sc (List.mem_of_getElem? (i := 2) rfl) e_sn)
  · have h := h.2 c
    refine r_iload_n (kd109 rfl) rfl rfl ?_
    refine r_iconst (kd109 rfl) (y := 3) (by decide) rfl ?_
    refine r_icmp_ne (kd109 rfl) rfl (fun c => ?_) (fun c => ?_)
    · have h := h.1 c
      exact (b_Verifier_join_19 hd h).less (e_sc (List.mem_of_getElem? (i := 0) rfl) (e_sc (List.mem_of_getElem? (i := 1) rfl) (e_sc (List.mem_of_getElem? (i := 2) rfl) e_sn)))
    · have h := h.2 c
      refine r_iload_n (kd109 rfl) rfl rfl ?_
      refine r_callSI (d' := d - 1) (by omega) (kd109 rfl) (by decide) rfl rfl rfl (Nat.le_of_ble_eq_true rfl) rfl L70 (Nat.le_of_ble_eq_true rfl) (Nat.le_of_ble_eq_true rfl) (Nat.zero_le _) (Nat.zero_le _) rfl rfl rfl (b_Program_isReference (by omega) h) (fun x1 M1 h => ?_)
      refine r_if_eq (kd109 rfl) rfl (fun c => ?_) (fun c => ?_)
      · have h := h.1 c
        exact (b_Verifier_join_19 hd h).less (e_sc (List.mem_of_getElem? (i := 0) rfl) (e_sc (List.mem_of_getElem? (i := 1) rfl) (e_sc (List.mem_of_getElem? (i := 2) rfl) e_sn)))
      · have h := h.2 c
        exact (b_Verifier_join_17 hd h).less (e_sc (List.mem_of_getElem? (i := 2) rfl) e_sn)
