/-- TierMill$Decoder.<init>()V -/
theorem kd0 {pc : Nat} {q : eI} (h : e_d0.lookup pc = some q) : e_dec 0 pc = some q := h
theorem L0 : (e_m 0).2.2.1 = 1 := rfl
theorem R0 : (e_m 0).2.2.2.1 = none := rfl
def w_Decoder_init (l0 : Nat) (M : eM) (Q : eM → Prop) : Prop := e_c0 ≤ l0 ∧ Q M
theorem b_Decoder_init {d : Nat} {l0 : Nat} {M : eM} {Q : eM → Prop} (hd : 0 ≤ d) (h : w_Decoder_init l0 M Q) : e_CV 0 d 0 0 [.ref l0] M Q := by
  unfold w_Decoder_init at h
  show e_E 0 d 0 0 0 [(0, .ref l0)] [] M (e_QV Q)
  refine r_aload_n (kd0 rfl) rfl rfl ?_
  obtain ⟨g, h⟩ := h
  refine r_objInit (kd0 rfl) g (Nat.le_of_ble_eq_true rfl) rfl ?_
  exact r_return (kd0 rfl) R0 h
/-- TierMill$Decoder.sizeAt(II)I -/
theorem kd3 {pc : Nat} {q : eI} (h : e_d3.lookup pc = some q) : e_dec 3 pc = some q := h
theorem L3 : (e_m 3).2.2.1 = 4 := rfl
theorem R3 : (e_m 3).2.2.2.1 = (some .int) := rfl
def w_Decoder_sizeAt_54 (s0 : Int32) (M : eM) (Q : Int32 → eM → Prop) : Prop := Q s0 M
theorem b_Decoder_sizeAt_54 {d : Nat} {s0 : Int32} {M : eM} {Q : Int32 → eM → Prop} (hd : 0 ≤ d) (h : w_Decoder_sizeAt_54 s0 M Q ) : e_E 3 d 0 0 54 [] [.int s0] M (e_QI Q) := by
  unfold w_Decoder_sizeAt_54 at h
  exact r_ireturn (kd3 rfl) R3 h
def w_Decoder_sizeAt (l0 : Nat) (l1 : Int32) (l2 : Int32) (M : eM) (Q : Int32 → eM → Prop) : Prop := e_ob M l0 0 ∧ e_ob M (gr M l0 2) 6 ∧ e_ai M (gr M (gr M l0 2) 0) l1 ∧ ((gi M (gr M (gr M l0 2) 0) l1.toNatClampNeg) ≤ 53 → (53 ≤ (gi M (gr M (gr M l0 2) 0) l1.toNatClampNeg) → (l2 ≤ (l1 + 1) → w_Decoder_sizeAt_54 (-1) M Q) ∧ (¬ l2 ≤ (l1 + 1) → e_ob M l0 0 ∧ e_ob M (gr M l0 2) 6 ∧ e_ai M (gr M (gr M l0 2) 0) (l1 + 1) ∧ w_Decoder_sizeAt_54 ((gi M (gr M (gr M l0 2) 0) (l1 + 1).toNatClampNeg) + 3) M Q)) ∧ (¬ 53 ≤ (gi M (gr M (gr M l0 2) 0) l1.toNatClampNeg) → e_ai M 2 (gi M (gr M (gr M l0 2) 0) l1.toNatClampNeg) ∧ Q (gi M 2 (gi M (gr M (gr M l0 2) 0) l1.toNatClampNeg).toNatClampNeg) M)) ∧ (¬ (gi M (gr M (gr M l0 2) 0) l1.toNatClampNeg) ≤ 53 → Q ((-1) : Int32) M)
theorem b_Decoder_sizeAt {d : Nat} {l0 : Nat} {l1 : Int32} {l2 : Int32} {M : eM} {Q : Int32 → eM → Prop} (hd : 0 ≤ d) (h : w_Decoder_sizeAt l0 l1 l2 M Q) : e_CI 3 d 0 0 [.ref l0, .int l1, .int l2] M Q := by
  unfold w_Decoder_sizeAt at h
  show e_E 3 d 0 0 0 [(0, .ref l0), (1, .int l1), (2, .int l2)] [] M (e_QI Q)
  refine r_aload_n (kd3 rfl) rfl rfl ?_
  obtain ⟨g, h⟩ := h
  refine r_get2 (kd3 rfl) (by decide) rfl g rfl ?_
  obtain ⟨g, h⟩ := h
  refine r_get2 (kd3 rfl) (by decide) rfl g rfl ?_
  refine r_iload_n (kd3 rfl) rfl rfl ?_
  obtain ⟨g, h⟩ := h
  refine r_iaload (kd3 rfl) g rfl ?_
  refine r_istore_n (kd3 rfl) L3 (by decide) rfl rfl ?_
  refine r_iload_n (kd3 rfl) rfl rfl ?_
  refine r_bipush (kd3 rfl) (y := 53) (by decide) rfl ?_
  refine r_icmp_le (kd3 rfl) rfl (fun c => ?_) (fun c => ?_)
  · have h := h.1 c
    refine r_iload_n (kd3 rfl) rfl rfl ?_
    refine r_bipush (kd3 rfl) (y := 53) (by decide) rfl ?_
    refine r_icmp_ge (kd3 rfl) rfl (fun c => ?_) (fun c => ?_)
    · have h := h.1 c
      refine r_iload_n (kd3 rfl) rfl rfl ?_
      refine r_iconst (kd3 rfl) (y := 1) (by decide) rfl ?_
      refine r_iadd (kd3 rfl) rfl ?_
      refine r_iload_n (kd3 rfl) rfl rfl ?_
      refine r_icmp_ge (kd3 rfl) rfl (fun c => ?_) (fun c => ?_)
      · have h := h.1 c
        refine r_iconst (kd3 rfl) (y := (-1)) (by decide) rfl ?_
        exact (b_Decoder_sizeAt_54 hd h).less e_sn
      · have h := h.2 c
        refine r_aload_n (kd3 rfl) rfl rfl ?_
        obtain ⟨g, h⟩ := h
        refine r_get2 (kd3 rfl) (by decide) rfl g rfl ?_
        obtain ⟨g, h⟩ := h
        refine r_get2 (kd3 rfl) (by decide) rfl g rfl ?_
        refine r_iload_n (kd3 rfl) rfl rfl ?_
        refine r_iconst (kd3 rfl) (y := 1) (by decide) rfl ?_
        refine r_iadd (kd3 rfl) rfl ?_
        obtain ⟨g, h⟩ := h
        refine r_iaload (kd3 rfl) g rfl ?_
        refine r_iconst (kd3 rfl) (y := 3) (by decide) rfl ?_
        refine r_iadd (kd3 rfl) rfl ?_
        refine r_goto (kd3 rfl) ?_
        exact (b_Decoder_sizeAt_54 hd h).less e_sn
    · have h := h.2 c
      refine r_getstatic (kd3 rfl) (by decide) rfl ?_
      refine r_iload_n (kd3 rfl) rfl rfl ?_
      obtain ⟨g, h⟩ := h
      refine r_iaload (kd3 rfl) g rfl ?_
      exact r_ireturn (kd3 rfl) R3 h
  · have h := h.2 c
    refine r_iconst (kd3 rfl) (y := (-1)) (by decide) rfl ?_
    exact r_ireturn (kd3 rfl) R3 h
/-- java/util/Arrays.rangeCheck(III)V -/
theorem kd232 {pc : Nat} {q : eI} (h : e_d232.lookup pc = some q) : e_dec 232 pc = some q := h
theorem L232 : (e_m 232).2.2.1 = 3 := rfl
theorem R232 : (e_m 232).2.2.2.1 = none := rfl
def w_Arr_rangeCheck (kc ks : Nat) (l0 : Int32) (l1 : Int32) (l2 : Int32) (M : eM) (Q : eM → Prop) : Prop := (l1 ≤ l2 → (0 ≤ l1 → (l2 ≤ l0 → Q M) ∧ (¬ l2 ≤ l0 → False)) ∧ (¬ 0 ≤ l1 → False)) ∧ (¬ l1 ≤ l2 → False)
theorem b_Arr_rangeCheck {d : Nat} {kc ks : Nat} {l0 : Int32} {l1 : Int32} {l2 : Int32} {M : eM} {Q : eM → Prop} (hd : 0 ≤ d) (h : w_Arr_rangeCheck kc ks l0 l1 l2 M Q) : e_CV 232 d kc ks [.int l0, .int l1, .int l2] M Q := by
  unfold w_Arr_rangeCheck at h
  show e_E 232 d kc ks 0 [(0, .int l0), (1, .int l1), (2, .int l2)] [] M (e_QV Q)
  refine r_iload_n (kd232 rfl) rfl rfl ?_
  refine r_iload_n (kd232 rfl) rfl rfl ?_
  refine r_icmp_le (kd232 rfl) rfl (fun c => ?_) (fun c => ?_)
  · have h := h.1 c
    refine r_iload_n (kd232 rfl) rfl rfl ?_
    refine r_if_ge (kd232 rfl) rfl (fun c => ?_) (fun c => ?_)
    · have h := h.1 c
      refine r_iload_n (kd232 rfl) rfl rfl ?_
      refine r_iload_n (kd232 rfl) rfl rfl ?_
      refine r_icmp_le (kd232 rfl) rfl (fun c => ?_) (fun c => ?_)
      · have h := h.1 c
        exact r_return (kd232 rfl) R232 h
      · have h := h.2 c
        exact False.elim h
    · have h := h.2 c
      exact False.elim h
  · have h := h.2 c
    exact False.elim h
/-- java/util/Arrays.fill([IIII)V -/
theorem kd234 {pc : Nat} {q : eI} (h : e_d234.lookup pc = some q) : e_dec 234 pc = some q := h
theorem L234 : (e_m 234).2.2.1 = 5 := rfl
theorem R234 : (e_m 234).2.2.2.1 = none := rfl
def w_Arr_fill_234_10 : Nat → Nat → Nat → Nat → Int32 → Int32 → Int32 → eM → (eM → Prop) → Prop
  | 0, _, _, _, _, _, _, _, _ => False
  | n + 1, kc, ks, l0, l2, l3, l4, M, Q => (l2 ≤ l4 → Q M) ∧ (¬ l2 ≤ l4 → e_ar M l0 20 l4 ∧ ∀ M5 : eM, M5 = e_si M l0 l4.toNatClampNeg l3 → (fun kc ks l0 l2 l3 l4 M => w_Arr_fill_234_10 n kc ks l0 l2 l3 l4 M Q ) kc ks l0 l2 l3 (l4 + 1) M5)
theorem b_Arr_fill_234_10 {d : Nat} {Q : eM → Prop} (hd : 1 ≤ d) (n : Nat) : ∀ (kc ks : Nat) (l0 : Nat) (l2 : Int32) (l3 : Int32) (l4 : Int32) (M : eM), w_Arr_fill_234_10 n kc ks l0 l2 l3 l4 M Q → e_E 234 d kc ks 10 [(0, .ref l0), (2, .int l2), (3, .int l3), (4, .int l4)] [] M (e_QV Q) := by
  induction n with
  | zero => intro kc ks l0 l2 l3 l4 M h; exact False.elim h
  | succ n ih =>
    intro kc ks l0 l2 l3 l4 M h
    have hk10 := ih
    refine r_iload (kd234 rfl) rfl rfl ?_
    refine r_iload_n (kd234 rfl) rfl rfl ?_
    refine r_icmp_ge (kd234 rfl) rfl (fun c => ?_) (fun c => ?_)
    · have h := h.1 c
      exact r_return (kd234 rfl) R234 h
    · have h := h.2 c
      refine r_aload_n (kd234 rfl) rfl rfl ?_
      refine r_iload (kd234 rfl) rfl rfl ?_
      refine r_iload_n (kd234 rfl) rfl rfl ?_
      obtain ⟨g, h⟩ := h
      have h := h _ rfl
      refine r_iastore (kd234 rfl) g rfl ?_
      refine r_iinc (kd234 rfl) rfl (y := 1) (by decide) L234 (by decide) rfl rfl ?_
      refine r_goto (kd234 rfl) ?_
      exact (hk10 _ _ _ _ _ _ _ h).less (e_sc (List.mem_of_getElem? (i := 1) rfl) (e_sc (List.mem_of_getElem? (i := 2) rfl) (e_sc (List.mem_of_getElem? (i := 3) rfl) (e_sc (List.mem_of_getElem? (i := 0) rfl) e_sn))))
def w_Arr_fill_234 (kc ks : Nat) (l0 : Nat) (l1 : Int32) (l2 : Int32) (l3 : Int32) (M : eM) (Q : eM → Prop) : Prop := ((0 < l0 ∧ l0 < M.1 ∧ gt M l0 = 20) ∨ (e_c0 ≤ l0 ∧ l0 < M.1 ∧ 20 ≤ gt M l0 ∧ gt M l0 ≤ 24)) ∧ ∃ kc2 ks3 : Nat, kc2 ≤ kc ∧ ks3 ≤ ks ∧ w_Arr_rangeCheck kc2 ks3 (Int32.ofNat (gn M l0)) l1 l2 M (fun (M1 : eM) => ∃ n4 : Nat, w_Arr_fill_234_10 n4 (kc - kc2) (ks - ks3) l0 l2 l3 l1 M1 Q)
theorem b_Arr_fill_234 {d : Nat} {kc ks : Nat} {l0 : Nat} {l1 : Int32} {l2 : Int32} {l3 : Int32} {M : eM} {Q : eM → Prop} (hd : 1 ≤ d) (h : w_Arr_fill_234 kc ks l0 l1 l2 l3 M Q) : e_CV 234 d kc ks [.ref l0, .int l1, .int l2, .int l3] M Q := by
  unfold w_Arr_fill_234 at h
  show e_E 234 d kc ks 0 [(0, .ref l0), (1, .int l1), (2, .int l2), (3, .int l3)] [] M (e_QV Q)
  refine r_aload_n (kd234 rfl) rfl rfl ?_
  obtain ⟨g, h⟩ := h
  refine r_arraylength (kd234 rfl) g rfl ?_
  refine r_iload_n (kd234 rfl) rfl rfl ?_
  refine r_iload_n (kd234 rfl) rfl rfl ?_
  obtain ⟨mc, ms, q1, q2, h⟩ := h
  refine r_callSV (d' := d - 1) (by omega) (kd234 rfl) (by decide) rfl rfl rfl rfl (Nat.le_of_ble_eq_true rfl) rfl L232 (Nat.le_of_ble_eq_true rfl) (Nat.le_of_ble_eq_true rfl) q1 q2 rfl rfl rfl (b_Arr_rangeCheck (by omega) h) (fun M1 h => ?_)
  refine r_iload_n (kd234 rfl) rfl rfl ?_
  refine r_istore (kd234 rfl) L234 (by decide) rfl rfl ?_
  obtain ⟨n, h⟩ := h
  exact (b_Arr_fill_234_10 hd n _ _ _ _ _ _ _ h).less (e_sc (List.mem_of_getElem? (i := 1) rfl) (e_sc (List.mem_of_getElem? (i := 3) rfl) (e_sc (List.mem_of_getElem? (i := 4) rfl) (e_sc (List.mem_of_getElem? (i := 0) rfl) e_sn))))
/-- TierMill$Decoder.markBegins(LTierMill$Shape;)V -/
theorem kd2 {pc : Nat} {q : eI} (h : e_d2.lookup pc = some q) : e_dec 2 pc = some q := h
theorem L2 : (e_m 2).2.2.1 = 6 := rfl
theorem R2 : (e_m 2).2.2.2.1 = none := rfl
def w_Decoder_markBegins_153 (kc ks : Nat) (l0 : Nat) (l2 : Int32) (l3 : Int32) (M : eM) (Q : eM → Prop) (k31 : Nat → Nat → Nat → Int32 → Int32 → eM → Prop) : Prop := k31 kc ks l0 l2 l3 M
theorem b_Decoder_markBegins_153 {d : Nat} {kc ks : Nat} {l0 : Nat} {l2 : Int32} {l3 : Int32} {M : eM} {Q : eM → Prop} {k31 : Nat → Nat → Nat → Int32 → Int32 → eM → Prop} (hd : 2 ≤ d) (hk31 : ∀ (kc ks : Nat) (l0 : Nat) (l2 : Int32) (l3 : Int32) (M : eM), k31 kc ks l0 l2 l3 M → e_E 2 d kc ks 31 [(0, .ref l0), (2, .int l2), (3, .int l3)] [] M (e_QV Q)) (h : w_Decoder_markBegins_153 kc ks l0 l2 l3 M Q k31) : e_E 2 d kc ks 153 [(0, .ref l0), (2, .int l2), (3, .int l3)] [] M (e_QV Q) := by
  unfold w_Decoder_markBegins_153 at h
  refine r_goto (kd2 rfl) ?_
  exact (hk31 _ _ _ _ _ _ h).less (e_sc (List.mem_of_getElem? (i := 0) rfl) (e_sc (List.mem_of_getElem? (i := 1) rfl) (e_sc (List.mem_of_getElem? (i := 2) rfl) e_sn)))
def w_Decoder_markBegins_69 (kc ks : Nat) (l0 : Nat) (l2 : Int32) (l3 : Int32) (M : eM) (Q : eM → Prop) (k31 : Nat → Nat → Nat → Int32 → Int32 → eM → Prop) : Prop := e_ob M l0 0 ∧ e_ob M (gr M l0 2) 6 ∧ e_ar M (gr M (gr M l0 2) 12) 20 l3 ∧ ∀ M11 : eM, M11 = e_si M (gr M (gr M l0 2) 12) l3.toNatClampNeg (-1) → w_Decoder_markBegins_153 kc ks l0 l2 l2 M11 Q k31
theorem b_Decoder_markBegins_69 {d : Nat} {kc ks : Nat} {l0 : Nat} {l2 : Int32} {l3 : Int32} {M : eM} {Q : eM → Prop} {k31 : Nat → Nat → Nat → Int32 → Int32 → eM → Prop} (hd : 2 ≤ d) (hk31 : ∀ (kc ks : Nat) (l0 : Nat) (l2 : Int32) (l3 : Int32) (M : eM), k31 kc ks l0 l2 l3 M → e_E 2 d kc ks 31 [(0, .ref l0), (2, .int l2), (3, .int l3)] [] M (e_QV Q)) (h : w_Decoder_markBegins_69 kc ks l0 l2 l3 M Q k31) : e_E 2 d kc ks 69 [(0, .ref l0), (2, .int l2), (3, .int l3)] [] M (e_QV Q) := by
  unfold w_Decoder_markBegins_69 at h
  refine r_aload_n (kd2 rfl) rfl rfl ?_
  obtain ⟨g, h⟩ := h
  refine r_get2 (kd2 rfl) (by decide) rfl g rfl ?_
  obtain ⟨g, h⟩ := h
  refine r_get2 (kd2 rfl) (by decide) rfl g rfl ?_
  refine r_iload_n (kd2 rfl) rfl rfl ?_
  refine r_iconst (kd2 rfl) (y := (-1)) (by decide) rfl ?_
  obtain ⟨g, h⟩ := h
  have h := h _ rfl
  refine r_iastore (kd2 rfl) g rfl ?_
  refine r_iload_n (kd2 rfl) rfl rfl ?_
  refine r_istore_n (kd2 rfl) L2 (by decide) rfl rfl ?_
  refine r_goto (kd2 rfl) ?_
  exact (b_Decoder_markBegins_153 hd hk31 h).less (e_sc (List.mem_of_getElem? (i := 1) rfl) (e_sc (List.mem_of_getElem? (i := 2) rfl) (e_sc (List.mem_of_getElem? (i := 0) rfl) e_sn)))
def w_Decoder_markBegins_148 (kc ks : Nat) (l0 : Nat) (l2 : Int32) (l3 : Int32) (l5 : Int32) (M : eM) (Q : eM → Prop) (k31 : Nat → Nat → Nat → Int32 → Int32 → eM → Prop) : Prop := w_Decoder_markBegins_153 kc ks l0 l2 (l3 + l5) M Q k31
theorem b_Decoder_markBegins_148 {d : Nat} {kc ks : Nat} {l0 : Nat} {l2 : Int32} {l3 : Int32} {l5 : Int32} {M : eM} {Q : eM → Prop} {k31 : Nat → Nat → Nat → Int32 → Int32 → eM → Prop} (hd : 2 ≤ d) (hk31 : ∀ (kc ks : Nat) (l0 : Nat) (l2 : Int32) (l3 : Int32) (M : eM), k31 kc ks l0 l2 l3 M → e_E 2 d kc ks 31 [(0, .ref l0), (2, .int l2), (3, .int l3)] [] M (e_QV Q)) (h : w_Decoder_markBegins_148 kc ks l0 l2 l3 l5 M Q k31) : e_E 2 d kc ks 148 [(0, .ref l0), (2, .int l2), (3, .int l3), (5, .int l5)] [] M (e_QV Q) := by
  unfold w_Decoder_markBegins_148 at h
  refine r_iload_n (kd2 rfl) rfl rfl ?_
  refine r_iload (kd2 rfl) rfl rfl ?_
  refine r_iadd (kd2 rfl) rfl ?_
  refine r_istore_n (kd2 rfl) L2 (by decide) rfl rfl ?_
  exact (b_Decoder_markBegins_153 hd hk31 h).less (e_sc (List.mem_of_getElem? (i := 1) rfl) (e_sc (List.mem_of_getElem? (i := 2) rfl) (e_sc (List.mem_of_getElem? (i := 0) rfl) e_sn)))
def w_Decoder_markBegins_119 (kc ks : Nat) (l0 : Nat) (l2 : Int32) (l3 : Int32) (l5 : Int32) (M : eM) (Q : eM → Prop) (k31 : Nat → Nat → Nat → Int32 → Int32 → eM → Prop) : Prop := e_ob M l0 0 ∧ e_ob M (gr M l0 2) 6 ∧ e_ob M l0 0 ∧ e_ob M (gr M l0 2) 6 ∧ e_ar M (gr M (gr M l0 2) 13) 20 l3 ∧ ∀ M9 : eM, M9 = e_si M (gr M (gr M l0 2) 13) l3.toNatClampNeg (gi M (gr M l0 2) 14) → e_ob M9 l0 0 ∧ e_ob M9 (gr M9 l0 2) 6 ∧ e_ob M9 (gr M9 l0 2) 6 ∧ ∀ M10 : eM, M10 = e_si M9 (gr M9 l0 2) 14 ((gi M9 (gr M9 l0 2) 14) + 1) → w_Decoder_markBegins_148 kc ks l0 l2 l3 l5 M10 Q k31
theorem b_Decoder_markBegins_119 {d : Nat} {kc ks : Nat} {l0 : Nat} {l2 : Int32} {l3 : Int32} {l5 : Int32} {M : eM} {Q : eM → Prop} {k31 : Nat → Nat → Nat → Int32 → Int32 → eM → Prop} (hd : 2 ≤ d) (hk31 : ∀ (kc ks : Nat) (l0 : Nat) (l2 : Int32) (l3 : Int32) (M : eM), k31 kc ks l0 l2 l3 M → e_E 2 d kc ks 31 [(0, .ref l0), (2, .int l2), (3, .int l3)] [] M (e_QV Q)) (h : w_Decoder_markBegins_119 kc ks l0 l2 l3 l5 M Q k31) : e_E 2 d kc ks 119 [(0, .ref l0), (2, .int l2), (3, .int l3), (5, .int l5)] [] M (e_QV Q) := by
  unfold w_Decoder_markBegins_119 at h
  refine r_aload_n (kd2 rfl) rfl rfl ?_
  obtain ⟨g, h⟩ := h
  refine r_get2 (kd2 rfl) (by decide) rfl g rfl ?_
  obtain ⟨g, h⟩ := h
  refine r_get2 (kd2 rfl) (by decide) rfl g rfl ?_
  refine r_iload_n (kd2 rfl) rfl rfl ?_
  refine r_aload_n (kd2 rfl) rfl rfl ?_
  obtain ⟨g, h⟩ := h
  refine r_get2 (kd2 rfl) (by decide) rfl g rfl ?_
  obtain ⟨g, h⟩ := h
  refine r_get0 (kd2 rfl) (by decide) rfl g rfl ?_
  obtain ⟨g, h⟩ := h
  have h := h _ rfl
  refine r_iastore (kd2 rfl) g rfl ?_
  refine r_aload_n (kd2 rfl) rfl rfl ?_
  obtain ⟨g, h⟩ := h
  refine r_get2 (kd2 rfl) (by decide) rfl g rfl ?_
  refine r_dup (kd2 rfl) rfl rfl ?_
  obtain ⟨g, h⟩ := h
  refine r_get0 (kd2 rfl) (by decide) rfl g rfl ?_
  refine r_iconst (kd2 rfl) (y := 1) (by decide) rfl ?_
  refine r_iadd (kd2 rfl) rfl ?_
  obtain ⟨g, h⟩ := h
  have h := h _ rfl
  refine r_put0 (kd2 rfl) (by decide) rfl g rfl ?_
  exact (b_Decoder_markBegins_148 hd hk31 h).less (e_sc (List.mem_of_getElem? (i := 0) rfl) (e_sc (List.mem_of_getElem? (i := 1) rfl) (e_sc (List.mem_of_getElem? (i := 2) rfl) (e_sc (List.mem_of_getElem? (i := 3) rfl) e_sn))))
def w_Decoder_markBegins_31 : Nat → Nat → Nat → Nat → Int32 → Int32 → eM → (eM → Prop) → Prop
  | 0, _, _, _, _, _, _, _ => False
  | n + 1, kc, ks, l0, l2, l3, M, Q => (l2 ≤ l3 → Q M) ∧ (¬ l2 ≤ l3 → e_ob M l0 0 ∧ e_ob M (gr M l0 2) 6 ∧ e_ai M (gr M (gr M l0 2) 0) l3 ∧ e_ob M l0 0 ∧ w_Decoder_sizeAt l0 l3 l2 M (fun (v6 : Int32) (M5 : eM) => (v6 = (-1) → w_Decoder_markBegins_69 kc ks l0 l2 l3 M5 Q (fun kc ks l0 l2 l3 M => w_Decoder_markBegins_31 n kc ks l0 l2 l3 M Q )) ∧ (¬ v6 = (-1) → ((l3 + v6) ≤ l2 → e_ob M5 l0 0 ∧ e_ob M5 (gr M5 l0 2) 6 ∧ e_ar M5 (gr M5 (gr M5 l0 2) 12) 20 l3 ∧ ∀ M7 : eM, M7 = e_si M5 (gr M5 (gr M5 l0 2) 12) l3.toNatClampNeg v6 → e_ob M7 l0 0 ∧ e_ob M7 (gr M7 l0 2) 6 ∧ e_ar M7 (gr M7 (gr M7 l0 2) 13) 20 l3 ∧ ∀ M8 : eM, M8 = e_si M7 (gr M7 (gr M7 l0 2) 13) l3.toNatClampNeg (-1) → ((gi M (gr M (gr M l0 2) 0) l3.toNatClampNeg) = 47 → w_Decoder_markBegins_119 kc ks l0 l2 l3 v6 M8 Q (fun kc ks l0 l2 l3 M => w_Decoder_markBegins_31 n kc ks l0 l2 l3 M Q )) ∧ (¬ (gi M (gr M (gr M l0 2) 0) l3.toNatClampNeg) = 47 → (¬ (gi M (gr M (gr M l0 2) 0) l3.toNatClampNeg) = 48 → w_Decoder_markBegins_148 kc ks l0 l2 l3 v6 M8 Q (fun kc ks l0 l2 l3 M => w_Decoder_markBegins_31 n kc ks l0 l2 l3 M Q )) ∧ ((gi M (gr M (gr M l0 2) 0) l3.toNatClampNeg) = 48 → w_Decoder_markBegins_119 kc ks l0 l2 l3 v6 M8 Q (fun kc ks l0 l2 l3 M => w_Decoder_markBegins_31 n kc ks l0 l2 l3 M Q )))) ∧ (¬ (l3 + v6) ≤ l2 → w_Decoder_markBegins_69 kc ks l0 l2 l3 M5 Q (fun kc ks l0 l2 l3 M => w_Decoder_markBegins_31 n kc ks l0 l2 l3 M Q )))))
theorem b_Decoder_markBegins_31 {d : Nat} {Q : eM → Prop} (hd : 2 ≤ d) (n : Nat) : ∀ (kc ks : Nat) (l0 : Nat) (l2 : Int32) (l3 : Int32) (M : eM), w_Decoder_markBegins_31 n kc ks l0 l2 l3 M Q → e_E 2 d kc ks 31 [(0, .ref l0), (2, .int l2), (3, .int l3)] [] M (e_QV Q) := by
  induction n with
  | zero => intro kc ks l0 l2 l3 M h; exact False.elim h
  | succ n ih =>
    intro kc ks l0 l2 l3 M h
    have hk31 := ih
    refine r_iload_n (kd2 rfl) rfl rfl ?_
    refine r_iload_n (kd2 rfl) rfl rfl ?_
    refine r_icmp_ge (kd2 rfl) rfl (fun c => ?_) (fun c => ?_)
    · have h := h.1 c
      exact r_return (kd2 rfl) R2 h
    · have h := h.2 c
      refine r_aload_n (kd2 rfl) rfl rfl ?_
      obtain ⟨g, h⟩ := h
      refine r_get2 (kd2 rfl) (by decide) rfl g rfl ?_
      obtain ⟨g, h⟩ := h
      refine r_get2 (kd2 rfl) (by decide) rfl g rfl ?_
      refine r_iload_n (kd2 rfl) rfl rfl ?_
      obtain ⟨g, h⟩ := h
      refine r_iaload (kd2 rfl) g rfl ?_
      refine r_istore (kd2 rfl) L2 (by decide) rfl rfl ?_
      refine r_aload_n (kd2 rfl) rfl rfl ?_
      refine r_iload_n (kd2 rfl) rfl rfl ?_
      refine r_iload_n (kd2 rfl) rfl rfl ?_
      obtain ⟨g, h⟩ := h
      refine r_callVI (d' := d - 1) (by omega) (kd2 rfl) (by decide) rfl rfl rfl rfl (Nat.le_of_ble_eq_true rfl) rfl L3 (Nat.le_of_ble_eq_true rfl) (Nat.le_of_ble_eq_true rfl) g (Nat.zero_le _) (Nat.zero_le _) rfl rfl rfl (b_Decoder_sizeAt (by omega) h) (fun x1 M1 h => ?_)
      refine r_istore (kd2 rfl) L2 (by decide) rfl rfl ?_
      refine r_iload (kd2 rfl) rfl rfl ?_
      refine r_iconst (kd2 rfl) (y := (-1)) (by decide) rfl ?_
      refine r_icmp_eq (kd2 rfl) rfl (fun c => ?_) (fun c => ?_)
      · have h := h.1 c
        exact (b_Decoder_markBegins_69 hd hk31 h).less (e_sc (List.mem_of_getElem? (i := 2) rfl) (e_sc (List.mem_of_getElem? (i := 3) rfl) (e_sc (List.mem_of_getElem? (i := 4) rfl) e_sn)))
      · have h := h.2 c
        refine r_iload_n (kd2 rfl) rfl rfl ?_
        refine r_iload (kd2 rfl) rfl rfl ?_
        refine r_iadd (kd2 rfl) rfl ?_
        refine r_iload_n (kd2 rfl) rfl rfl ?_
        refine r_icmp_le (kd2 rfl) rfl (fun c => ?_) (fun c => ?_)
        · have h := h.1 c
          refine r_aload_n (kd2 rfl) rfl rfl ?_
          obtain ⟨g, h⟩ := h
          refine r_get2 (kd2 rfl) (by decide) rfl g rfl ?_
          obtain ⟨g, h⟩ := h
          refine r_get2 (kd2 rfl) (by decide) rfl g rfl ?_
          refine r_iload_n (kd2 rfl) rfl rfl ?_
          refine r_iload (kd2 rfl) rfl rfl ?_
          obtain ⟨g, h⟩ := h
          have h := h _ rfl
          refine r_iastore (kd2 rfl) g rfl ?_
          refine r_aload_n (kd2 rfl) rfl rfl ?_
          obtain ⟨g, h⟩ := h
          refine r_get2 (kd2 rfl) (by decide) rfl g rfl ?_
          obtain ⟨g, h⟩ := h
          refine r_get2 (kd2 rfl) (by decide) rfl g rfl ?_
          refine r_iload_n (kd2 rfl) rfl rfl ?_
          refine r_iconst (kd2 rfl) (y := (-1)) (by decide) rfl ?_
          obtain ⟨g, h⟩ := h
          have h := h _ rfl
          refine r_iastore (kd2 rfl) g rfl ?_
          refine r_iload (kd2 rfl) rfl rfl ?_
          refine r_bipush (kd2 rfl) (y := 47) (by decide) rfl ?_
          refine r_icmp_eq (kd2 rfl) rfl (fun c => ?_) (fun c => ?_)
          · have h := h.1 c
            exact (b_Decoder_markBegins_119 hd hk31 h).less (e_sc (List.mem_of_getElem? (i := 2) rfl) (e_sc (List.mem_of_getElem? (i := 3) rfl) (e_sc (List.mem_of_getElem? (i := 4) rfl) (e_sc (List.mem_of_getElem? (i := 0) rfl) e_sn))))
          · have h := h.2 c
            refine r_iload (kd2 rfl) rfl rfl ?_
            refine r_bipush (kd2 rfl) (y := 48) (by decide) rfl ?_
            refine r_icmp_ne (kd2 rfl) rfl (fun c => ?_) (fun c => ?_)
            · have h := h.1 c
              exact (b_Decoder_markBegins_148 hd hk31 h).less (e_sc (List.mem_of_getElem? (i := 2) rfl) (e_sc (List.mem_of_getElem? (i := 3) rfl) (e_sc (List.mem_of_getElem? (i := 4) rfl) (e_sc (List.mem_of_getElem? (i := 0) rfl) e_sn))))
            · have h := h.2 c
              exact (b_Decoder_markBegins_119 hd hk31 h).less (e_sc (List.mem_of_getElem? (i := 2) rfl) (e_sc (List.mem_of_getElem? (i := 3) rfl) (e_sc (List.mem_of_getElem? (i := 4) rfl) (e_sc (List.mem_of_getElem? (i := 0) rfl) e_sn))))
        · have h := h.2 c
          exact (b_Decoder_markBegins_69 hd hk31 h).less (e_sc (List.mem_of_getElem? (i := 2) rfl) (e_sc (List.mem_of_getElem? (i := 3) rfl) (e_sc (List.mem_of_getElem? (i := 4) rfl) e_sn)))
def w_Decoder_markBegins (kc ks : Nat) (l0 : Nat) (l1 : Nat) (M : eM) (Q : eM → Prop) : Prop := e_ob M l1 8 ∧ e_ob M l1 8 ∧ e_ob M l0 0 ∧ e_ob M (gr M l0 2) 6 ∧ e_ob M l1 8 ∧ ∃ kc2 ks3 : Nat, kc2 ≤ kc ∧ ks3 ≤ ks ∧ w_Arr_fill_234 kc2 ks3 (gr M (gr M l0 2) 12) (gi M l1 5) ((gi M l1 5) + (gi M l1 6)) 0 M (fun (M1 : eM) => e_ob M1 l1 8 ∧ ∃ n4 : Nat, w_Decoder_markBegins_31 n4 (kc - kc2) (ks - ks3) l0 ((gi M l1 5) + (gi M l1 6)) (gi M1 l1 5) M1 Q)
theorem b_Decoder_markBegins {d : Nat} {kc ks : Nat} {l0 : Nat} {l1 : Nat} {M : eM} {Q : eM → Prop} (hd : 2 ≤ d) (h : w_Decoder_markBegins kc ks l0 l1 M Q) : e_CV 2 d kc ks [.ref l0, .ref l1] M Q := by
  unfold w_Decoder_markBegins at h
  show e_E 2 d kc ks 0 [(0, .ref l0), (1, .ref l1)] [] M (e_QV Q)
  refine r_aload_n (kd2 rfl) rfl rfl ?_
  obtain ⟨g, h⟩ := h
  refine r_get0 (kd2 rfl) (by decide) rfl g rfl ?_
  refine r_aload_n (kd2 rfl) rfl rfl ?_
  obtain ⟨g, h⟩ := h
  refine r_get0 (kd2 rfl) (by decide) rfl g rfl ?_
  refine r_iadd (kd2 rfl) rfl ?_
  refine r_istore_n (kd2 rfl) L2 (by decide) rfl rfl ?_
  refine r_aload_n (kd2 rfl) rfl rfl ?_
  obtain ⟨g, h⟩ := h
  refine r_get2 (kd2 rfl) (by decide) rfl g rfl ?_
  obtain ⟨g, h⟩ := h
  refine r_get2 (kd2 rfl) (by decide) rfl g rfl ?_
  refine r_aload_n (kd2 rfl) rfl rfl ?_
  obtain ⟨g, h⟩ := h
  refine r_get0 (kd2 rfl) (by decide) rfl g rfl ?_
  refine r_iload_n (kd2 rfl) rfl rfl ?_
  refine r_iconst (kd2 rfl) (y := 0) (by decide) rfl ?_
  obtain ⟨mc, ms, q1, q2, h⟩ := h
  refine r_callSV (d' := d - 1) (by omega) (kd2 rfl) (by decide) rfl rfl rfl rfl (Nat.le_of_ble_eq_true rfl) rfl L234 (Nat.le_of_ble_eq_true rfl) (Nat.le_of_ble_eq_true rfl) q1 q2 rfl rfl rfl (b_Arr_fill_234 (by omega) h) (fun M1 h => ?_)
  refine r_aload_n (kd2 rfl) rfl rfl ?_
  obtain ⟨g, h⟩ := h
  refine r_get0 (kd2 rfl) (by decide) rfl g rfl ?_
  refine r_istore_n (kd2 rfl) L2 (by decide) rfl rfl ?_
  obtain ⟨n, h⟩ := h
  exact (b_Decoder_markBegins_31 hd n _ _ _ _ _ _ h).less (e_sc (List.mem_of_getElem? (i := 2) rfl) (e_sc (List.mem_of_getElem? (i := 1) rfl) (e_sc (List.mem_of_getElem? (i := 0) rfl) e_sn)))
/-- TierMill$Decoder.begins(LTierMill$Shape;I)Z -/
theorem kd7 {pc : Nat} {q : eI} (h : e_d7.lookup pc = some q) : e_dec 7 pc = some q := h
theorem L7 : (e_m 7).2.2.1 = 3 := rfl
theorem R7 : (e_m 7).2.2.2.1 = (some .boolean) := rfl
def w_Decoder_begins_30 (s0 : Int32) (M : eM) (Q : Int32 → eM → Prop) : Prop := (s0 = 0 ∨ s0 = 1) ∧ Q s0 M
theorem b_Decoder_begins_30 {d : Nat} {s0 : Int32} {M : eM} {Q : Int32 → eM → Prop} (hd : 0 ≤ d) (h : w_Decoder_begins_30 s0 M Q ) : e_E 7 d 0 0 30 [] [.int s0] M (e_QI Q) := by
  unfold w_Decoder_begins_30 at h
  exact r_zreturn (kd7 rfl) R7 h.1 h.2
def w_Decoder_begins_29 (M : eM) (Q : Int32 → eM → Prop) : Prop := w_Decoder_begins_30 0 M Q
theorem b_Decoder_begins_29 {d : Nat} {M : eM} {Q : Int32 → eM → Prop} (hd : 0 ≤ d) (h : w_Decoder_begins_29 M Q ) : e_E 7 d 0 0 29 [] [] M (e_QI Q) := by
  unfold w_Decoder_begins_29 at h
  refine r_iconst (kd7 rfl) (y := 0) (by decide) rfl ?_
  exact (b_Decoder_begins_30 hd h).less e_sn
def w_Decoder_begins (l0 : Nat) (l1 : Nat) (l2 : Int32) (M : eM) (Q : Int32 → eM → Prop) : Prop := e_ob M l1 8 ∧ ((gi M l1 6) ≤ l2 → w_Decoder_begins_29 M Q) ∧ (¬ (gi M l1 6) ≤ l2 → e_ob M l0 0 ∧ e_ob M (gr M l0 2) 6 ∧ e_ob M l1 8 ∧ e_ai M (gr M (gr M l0 2) 12) ((gi M l1 5) + l2) ∧ ((gi M (gr M (gr M l0 2) 12) ((gi M l1 5) + l2).toNatClampNeg) = 0 → w_Decoder_begins_29 M Q) ∧ (¬ (gi M (gr M (gr M l0 2) 12) ((gi M l1 5) + l2).toNatClampNeg) = 0 → w_Decoder_begins_30 1 M Q))
theorem b_Decoder_begins {d : Nat} {l0 : Nat} {l1 : Nat} {l2 : Int32} {M : eM} {Q : Int32 → eM → Prop} (hd : 0 ≤ d) (h : w_Decoder_begins l0 l1 l2 M Q) : e_CI 7 d 0 0 [.ref l0, .ref l1, .int l2] M Q := by
  unfold w_Decoder_begins at h
  show e_E 7 d 0 0 0 [(0, .ref l0), (1, .ref l1), (2, .int l2)] [] M (e_QI Q)
  refine r_iload_n (kd7 rfl) rfl rfl ?_
  refine r_aload_n (kd7 rfl) rfl rfl ?_
  obtain ⟨g, h⟩ := h
  refine r_get0 (kd7 rfl) (by decide) rfl g rfl ?_
  refine r_icmp_ge (kd7 rfl) rfl (fun c => ?_) (fun c => ?_)
  · have h := h.1 c
    exact (b_Decoder_begins_29 hd h).less e_sn
  · have h := h.2 c
    refine r_aload_n (kd7 rfl) rfl rfl ?_
    obtain ⟨g, h⟩ := h
    refine r_get2 (kd7 rfl) (by decide) rfl g rfl ?_
    obtain ⟨g, h⟩ := h
    refine r_get2 (kd7 rfl) (by decide) rfl g rfl ?_
    refine r_aload_n (kd7 rfl) rfl rfl ?_
    obtain ⟨g, h⟩ := h
    refine r_get0 (kd7 rfl) (by decide) rfl g rfl ?_
    refine r_iload_n (kd7 rfl) rfl rfl ?_
    refine r_iadd (kd7 rfl) rfl ?_
    obtain ⟨g, h⟩ := h
    refine r_iaload (kd7 rfl) g rfl ?_
    refine r_if_eq (kd7 rfl) rfl (fun c => ?_) (fun c => ?_)
    · have h := h.1 c
      exact (b_Decoder_begins_29 hd h).less e_sn
    · have h := h.2 c
      refine r_iconst (kd7 rfl) (y := 1) (by decide) rfl ?_
      refine r_goto (kd7 rfl) ?_
      exact (b_Decoder_begins_30 hd h).less e_sn
/-- TierMill$Decoder.choosesWell(LTierMill$Shape;I)Z -/
theorem kd6 {pc : Nat} {q : eI} (h : e_d6.lookup pc = some q) : e_dec 6 pc = some q := h
theorem L6 : (e_m 6).2.2.1 = 5 := rfl
theorem R6 : (e_m 6).2.2.2.1 = (some .boolean) := rfl
def w_Decoder_choosesWell_23 (M : eM) (Q : Int32 → eM → Prop) : Prop := ((0 : Int32) = 0 ∨ (0 : Int32) = 1) ∧ Q (0 : Int32) M
theorem b_Decoder_choosesWell_23 {d : Nat} {M : eM} {Q : Int32 → eM → Prop} (hd : 1 ≤ d) (h : w_Decoder_choosesWell_23 M Q ) : e_E 6 d 0 0 23 [] [] M (e_QI Q) := by
  unfold w_Decoder_choosesWell_23 at h
  refine r_iconst (kd6 rfl) (y := 0) (by decide) rfl ?_
  exact r_zreturn (kd6 rfl) R6 h.1 h.2
def w_Decoder_choosesWell_28 : Nat → Nat → Nat → Int32 → Int32 → Int32 → eM → (Int32 → eM → Prop) → Prop
  | 0, _, _, _, _, _, _, _ => False
  | n + 1, l0, l1, l2, l3, l4, M, Q => (l3 < l4 → ((1 : Int32) = 0 ∨ (1 : Int32) = 1) ∧ Q (1 : Int32) M) ∧ (¬ l3 < l4 → e_ob M l0 0 ∧ e_ob M (gr M l0 2) 6 ∧ e_ai M (gr M (gr M l0 2) 0) ((l2 + 2) + l4) ∧ e_ob M l0 0 ∧ w_Decoder_begins l0 l1 (gi M (gr M (gr M l0 2) 0) ((l2 + 2) + l4).toNatClampNeg) M (fun (v3 : Int32) (M2 : eM) => (¬ v3 = 0 → (fun l0 l1 l2 l3 l4 M => w_Decoder_choosesWell_28 n l0 l1 l2 l3 l4 M Q ) l0 l1 l2 l3 (l4 + 1) M2) ∧ (v3 = 0 → ((0 : Int32) = 0 ∨ (0 : Int32) = 1) ∧ Q (0 : Int32) M2)))
theorem b_Decoder_choosesWell_28 {d : Nat} {Q : Int32 → eM → Prop} (hd : 1 ≤ d) (n : Nat) : ∀ (l0 : Nat) (l1 : Nat) (l2 : Int32) (l3 : Int32) (l4 : Int32) (M : eM), w_Decoder_choosesWell_28 n l0 l1 l2 l3 l4 M Q → e_E 6 d 0 0 28 [(0, .ref l0), (1, .ref l1), (2, .int l2), (3, .int l3), (4, .int l4)] [] M (e_QI Q) := by
  induction n with
  | zero => intro l0 l1 l2 l3 l4 M h; exact False.elim h
  | succ n ih =>
    intro l0 l1 l2 l3 l4 M h
    have hk28 := ih
    refine r_iload (kd6 rfl) rfl rfl ?_
    refine r_iload_n (kd6 rfl) rfl rfl ?_
    refine r_icmp_gt (kd6 rfl) rfl (fun c => ?_) (fun c => ?_)
    · have h := h.1 c
      refine r_iconst (kd6 rfl) (y := 1) (by decide) rfl ?_
      exact r_zreturn (kd6 rfl) R6 h.1 h.2
    · have h := h.2 c
      refine r_aload_n (kd6 rfl) rfl rfl ?_
      refine r_aload_n (kd6 rfl) rfl rfl ?_
      refine r_aload_n (kd6 rfl) rfl rfl ?_
      obtain ⟨g, h⟩ := h
      refine r_get2 (kd6 rfl) (by decide) rfl g rfl ?_
      obtain ⟨g, h⟩ := h
      refine r_get2 (kd6 rfl) (by decide) rfl g rfl ?_
      refine r_iload_n (kd6 rfl) rfl rfl ?_
      refine r_iconst (kd6 rfl) (y := 2) (by decide) rfl ?_
      refine r_iadd (kd6 rfl) rfl ?_
      refine r_iload (kd6 rfl) rfl rfl ?_
      refine r_iadd (kd6 rfl) rfl ?_
      obtain ⟨g, h⟩ := h
      refine r_iaload (kd6 rfl) g rfl ?_
      obtain ⟨g, h⟩ := h
      refine r_callVI (d' := d - 1) (by omega) (kd6 rfl) (by decide) rfl rfl rfl rfl (Nat.le_of_ble_eq_true rfl) rfl L7 (Nat.le_of_ble_eq_true rfl) (Nat.le_of_ble_eq_true rfl) g (Nat.zero_le _) (Nat.zero_le _) rfl rfl rfl (b_Decoder_begins (by omega) h) (fun x1 M1 h => ?_)
      refine r_if_ne (kd6 rfl) rfl (fun c => ?_) (fun c => ?_)
      · have h := h.1 c
        refine r_iinc (kd6 rfl) rfl (y := 1) (by decide) L6 (by decide) rfl rfl ?_
        refine r_goto (kd6 rfl) ?_
        exact (hk28 _ _ _ _ _ _ h).less (e_sc (List.mem_of_getElem? (i := 1) rfl) (e_sc (List.mem_of_getElem? (i := 2) rfl) (e_sc (List.mem_of_getElem? (i := 3) rfl) (e_sc (List.mem_of_getElem? (i := 4) rfl) (e_sc (List.mem_of_getElem? (i := 0) rfl) e_sn)))))
      · have h := h.2 c
        refine r_iconst (kd6 rfl) (y := 0) (by decide) rfl ?_
        exact r_zreturn (kd6 rfl) R6 h.1 h.2
def w_Decoder_choosesWell (l0 : Nat) (l1 : Nat) (l2 : Int32) (M : eM) (Q : Int32 → eM → Prop) : Prop := e_ob M l0 0 ∧ e_ob M (gr M l0 2) 6 ∧ e_ai M (gr M (gr M l0 2) 0) (l2 + 1) ∧ ((gi M (gr M (gr M l0 2) 0) (l2 + 1).toNatClampNeg) < 1 → w_Decoder_choosesWell_23 M Q) ∧ (¬ (gi M (gr M (gr M l0 2) 0) (l2 + 1).toNatClampNeg) < 1 → ((gi M (gr M (gr M l0 2) 0) (l2 + 1).toNatClampNeg) ≤ 8 → ∃ n1 : Nat, w_Decoder_choosesWell_28 n1 l0 l1 l2 (gi M (gr M (gr M l0 2) 0) (l2 + 1).toNatClampNeg) 0 M Q) ∧ (¬ (gi M (gr M (gr M l0 2) 0) (l2 + 1).toNatClampNeg) ≤ 8 → w_Decoder_choosesWell_23 M Q))
theorem b_Decoder_choosesWell {d : Nat} {l0 : Nat} {l1 : Nat} {l2 : Int32} {M : eM} {Q : Int32 → eM → Prop} (hd : 1 ≤ d) (h : w_Decoder_choosesWell l0 l1 l2 M Q) : e_CI 6 d 0 0 [.ref l0, .ref l1, .int l2] M Q := by
  unfold w_Decoder_choosesWell at h
  show e_E 6 d 0 0 0 [(0, .ref l0), (1, .ref l1), (2, .int l2)] [] M (e_QI Q)
  refine r_aload_n (kd6 rfl) rfl rfl ?_
  obtain ⟨g, h⟩ := h
  refine r_get2 (kd6 rfl) (by decide) rfl g rfl ?_
  obtain ⟨g, h⟩ := h
  refine r_get2 (kd6 rfl) (by decide) rfl g rfl ?_
  refine r_iload_n (kd6 rfl) rfl rfl ?_
  refine r_iconst (kd6 rfl) (y := 1) (by decide) rfl ?_
  refine r_iadd (kd6 rfl) rfl ?_
  obtain ⟨g, h⟩ := h
  refine r_iaload (kd6 rfl) g rfl ?_
  refine r_istore_n (kd6 rfl) L6 (by decide) rfl rfl ?_
  refine r_iload_n (kd6 rfl) rfl rfl ?_
  refine r_iconst (kd6 rfl) (y := 1) (by decide) rfl ?_
  refine r_icmp_lt (kd6 rfl) rfl (fun c => ?_) (fun c => ?_)
  · have h := h.1 c
    exact (b_Decoder_choosesWell_23 hd h).less e_sn
  · have h := h.2 c
    refine r_iload_n (kd6 rfl) rfl rfl ?_
    refine r_bipush (kd6 rfl) (y := 8) (by decide) rfl ?_
    refine r_icmp_le (kd6 rfl) rfl (fun c => ?_) (fun c => ?_)
    · have h := h.1 c
      refine r_iconst (kd6 rfl) (y := 0) (by decide) rfl ?_
      refine r_istore (kd6 rfl) L6 (by decide) rfl rfl ?_
      obtain ⟨n, h⟩ := h
      exact (b_Decoder_choosesWell_28 hd n _ _ _ _ _ _ h).less (e_sc (List.mem_of_getElem? (i := 2) rfl) (e_sc (List.mem_of_getElem? (i := 3) rfl) (e_sc (List.mem_of_getElem? (i := 4) rfl) (e_sc (List.mem_of_getElem? (i := 1) rfl) (e_sc (List.mem_of_getElem? (i := 0) rfl) e_sn)))))
    · have h := h.2 c
      exact (b_Decoder_choosesWell_23 hd h).less e_sn
/-- TierMill$Decoder.namesWhatThereIs(LTierMill$Shape;II)Z -/
theorem kd5 {pc : Nat} {q : eI} (h : e_d5.lookup pc = some q) : e_dec 5 pc = some q := h
theorem L5 : (e_m 5).2.2.1 = 5 := rfl
theorem R5 : (e_m 5).2.2.2.1 = (some .boolean) := rfl
def w_Decoder_namesWhatThereIs_162 (s0 : Int32) (M : eM) (Q : Int32 → eM → Prop) : Prop := (s0 = 0 ∨ s0 = 1) ∧ Q s0 M
theorem b_Decoder_namesWhatThereIs_162 {d : Nat} {s0 : Int32} {M : eM} {Q : Int32 → eM → Prop} (hd : 2 ≤ d) (h : w_Decoder_namesWhatThereIs_162 s0 M Q ) : e_E 5 d 0 0 162 [] [.int s0] M (e_QI Q) := by
  unfold w_Decoder_namesWhatThereIs_162 at h
  exact r_zreturn (kd5 rfl) R5 h.1 h.2
def w_Decoder_namesWhatThereIs_148 (l1 : Nat) (l4 : Int32) (M : eM) (Q : Int32 → eM → Prop) : Prop := e_ob M l1 8 ∧ ((gi M l1 3) ≤ l4 → w_Decoder_namesWhatThereIs_162 0 M Q) ∧ (¬ (gi M l1 3) ≤ l4 → w_Decoder_namesWhatThereIs_162 1 M Q)
theorem b_Decoder_namesWhatThereIs_148 {d : Nat} {l1 : Nat} {l4 : Int32} {M : eM} {Q : Int32 → eM → Prop} (hd : 2 ≤ d) (h : w_Decoder_namesWhatThereIs_148 l1 l4 M Q ) : e_E 5 d 0 0 148 [(1, .ref l1), (4, .int l4)] [] M (e_QI Q) := by
  unfold w_Decoder_namesWhatThereIs_148 at h
  refine r_iload (kd5 rfl) rfl rfl ?_
  refine r_aload_n (kd5 rfl) rfl rfl ?_
  obtain ⟨g, h⟩ := h
  refine r_get0 (kd5 rfl) (by decide) rfl g rfl ?_
  refine r_icmp_ge (kd5 rfl) rfl (fun c => ?_) (fun c => ?_)
  · have h := h.1 c
    refine r_iconst (kd5 rfl) (y := 0) (by decide) rfl ?_
    exact (b_Decoder_namesWhatThereIs_162 hd h).less e_sn
  · have h := h.2 c
    refine r_iconst (kd5 rfl) (y := 1) (by decide) rfl ?_
    refine r_goto (kd5 rfl) ?_
    exact (b_Decoder_namesWhatThereIs_162 hd h).less e_sn
def w_Decoder_namesWhatThereIs_180 (s0 : Int32) (M : eM) (Q : Int32 → eM → Prop) : Prop := (s0 = 0 ∨ s0 = 1) ∧ Q s0 M
theorem b_Decoder_namesWhatThereIs_180 {d : Nat} {s0 : Int32} {M : eM} {Q : Int32 → eM → Prop} (hd : 2 ≤ d) (h : w_Decoder_namesWhatThereIs_180 s0 M Q ) : e_E 5 d 0 0 180 [] [.int s0] M (e_QI Q) := by
  unfold w_Decoder_namesWhatThereIs_180 at h
  exact r_zreturn (kd5 rfl) R5 h.1 h.2
def w_Decoder_namesWhatThereIs_163 (l0 : Nat) (l4 : Int32) (M : eM) (Q : Int32 → eM → Prop) : Prop := e_ob M l0 0 ∧ e_ob M (gr M l0 2) 6 ∧ ((gi M (gr M l0 2) 2) ≤ l4 → w_Decoder_namesWhatThereIs_180 0 M Q) ∧ (¬ (gi M (gr M l0 2) 2) ≤ l4 → w_Decoder_namesWhatThereIs_180 1 M Q)
theorem b_Decoder_namesWhatThereIs_163 {d : Nat} {l0 : Nat} {l4 : Int32} {M : eM} {Q : Int32 → eM → Prop} (hd : 2 ≤ d) (h : w_Decoder_namesWhatThereIs_163 l0 l4 M Q ) : e_E 5 d 0 0 163 [(0, .ref l0), (4, .int l4)] [] M (e_QI Q) := by
  unfold w_Decoder_namesWhatThereIs_163 at h
  refine r_iload (kd5 rfl) rfl rfl ?_
  refine r_aload_n (kd5 rfl) rfl rfl ?_
  obtain ⟨g, h⟩ := h
  refine r_get2 (kd5 rfl) (by decide) rfl g rfl ?_
  obtain ⟨g, h⟩ := h
  refine r_get0 (kd5 rfl) (by decide) rfl g rfl ?_
  refine r_icmp_ge (kd5 rfl) rfl (fun c => ?_) (fun c => ?_)
  · have h := h.1 c
    refine r_iconst (kd5 rfl) (y := 0) (by decide) rfl ?_
    exact (b_Decoder_namesWhatThereIs_180 hd h).less e_sn
  · have h := h.2 c
    refine r_iconst (kd5 rfl) (y := 1) (by decide) rfl ?_
    refine r_goto (kd5 rfl) ?_
    exact (b_Decoder_namesWhatThereIs_180 hd h).less e_sn
def w_Decoder_namesWhatThereIs_222 (s0 : Int32) (M : eM) (Q : Int32 → eM → Prop) : Prop := (s0 = 0 ∨ s0 = 1) ∧ Q s0 M
theorem b_Decoder_namesWhatThereIs_222 {d : Nat} {s0 : Int32} {M : eM} {Q : Int32 → eM → Prop} (hd : 2 ≤ d) (h : w_Decoder_namesWhatThereIs_222 s0 M Q ) : e_E 5 d 0 0 222 [] [.int s0] M (e_QI Q) := by
  unfold w_Decoder_namesWhatThereIs_222 at h
  exact r_zreturn (kd5 rfl) R5 h.1 h.2
def w_Decoder_namesWhatThereIs_221 (M : eM) (Q : Int32 → eM → Prop) : Prop := w_Decoder_namesWhatThereIs_222 0 M Q
theorem b_Decoder_namesWhatThereIs_221 {d : Nat} {M : eM} {Q : Int32 → eM → Prop} (hd : 2 ≤ d) (h : w_Decoder_namesWhatThereIs_221 M Q ) : e_E 5 d 0 0 221 [] [] M (e_QI Q) := by
  unfold w_Decoder_namesWhatThereIs_221 at h
  refine r_iconst (kd5 rfl) (y := 0) (by decide) rfl ?_
  exact (b_Decoder_namesWhatThereIs_222 hd h).less e_sn
def w_Decoder_namesWhatThereIs_181 (l0 : Nat) (l2 : Int32) (l4 : Int32) (M : eM) (Q : Int32 → eM → Prop) : Prop := e_ob M l0 0 ∧ e_ob M (gr M l0 2) 6 ∧ ((gi M (gr M l0 2) 2) ≤ l4 → w_Decoder_namesWhatThereIs_221 M Q) ∧ (¬ (gi M (gr M l0 2) 2) ≤ l4 → e_ob M l0 0 ∧ e_ob M (gr M l0 2) 6 ∧ e_ai M (gr M (gr M l0 2) 0) (l2 + 2) ∧ e_ob M l0 0 ∧ e_ob M (gr M l0 2) 6 ∧ e_ai M (gr M (gr M l0 2) 5) l4 ∧ ((gi M (gr M (gr M l0 2) 5) l4.toNatClampNeg) ≤ (gi M (gr M (gr M l0 2) 0) (l2 + 2).toNatClampNeg) → w_Decoder_namesWhatThereIs_221 M Q) ∧ (¬ (gi M (gr M (gr M l0 2) 5) l4.toNatClampNeg) ≤ (gi M (gr M (gr M l0 2) 0) (l2 + 2).toNatClampNeg) → w_Decoder_namesWhatThereIs_222 1 M Q))
theorem b_Decoder_namesWhatThereIs_181 {d : Nat} {l0 : Nat} {l2 : Int32} {l4 : Int32} {M : eM} {Q : Int32 → eM → Prop} (hd : 2 ≤ d) (h : w_Decoder_namesWhatThereIs_181 l0 l2 l4 M Q ) : e_E 5 d 0 0 181 [(0, .ref l0), (2, .int l2), (4, .int l4)] [] M (e_QI Q) := by
  unfold w_Decoder_namesWhatThereIs_181 at h
  refine r_iload (kd5 rfl) rfl rfl ?_
  refine r_aload_n (kd5 rfl) rfl rfl ?_
  obtain ⟨g, h⟩ := h
  refine r_get2 (kd5 rfl) (by decide) rfl g rfl ?_
  obtain ⟨g, h⟩ := h
  refine r_get0 (kd5 rfl) (by decide) rfl g rfl ?_
  refine r_icmp_ge (kd5 rfl) rfl (fun c => ?_) (fun c => ?_)
  · have h := h.1 c
    exact (b_Decoder_namesWhatThereIs_221 hd h).less e_sn
  · have h := h.2 c
    refine r_aload_n (kd5 rfl) rfl rfl ?_
    obtain ⟨g, h⟩ := h
    refine r_get2 (kd5 rfl) (by decide) rfl g rfl ?_
    obtain ⟨g, h⟩ := h
    refine r_get2 (kd5 rfl) (by decide) rfl g rfl ?_
    refine r_iload_n (kd5 rfl) rfl rfl ?_
    refine r_iconst (kd5 rfl) (y := 2) (by decide) rfl ?_
    refine r_iadd (kd5 rfl) rfl ?_
    obtain ⟨g, h⟩ := h
    refine r_iaload (kd5 rfl) g rfl ?_
    refine r_aload_n (kd5 rfl) rfl rfl ?_
    obtain ⟨g, h⟩ := h
    refine r_get2 (kd5 rfl) (by decide) rfl g rfl ?_
    obtain ⟨g, h⟩ := h
    refine r_get2 (kd5 rfl) (by decide) rfl g rfl ?_
    refine r_iload (kd5 rfl) rfl rfl ?_
    obtain ⟨g, h⟩ := h
    refine r_iaload (kd5 rfl) g rfl ?_
    refine r_icmp_ge (kd5 rfl) rfl (fun c => ?_) (fun c => ?_)
    · have h := h.1 c
      exact (b_Decoder_namesWhatThereIs_221 hd h).less e_sn
    · have h := h.2 c
      refine r_iconst (kd5 rfl) (y := 1) (by decide) rfl ?_
      refine r_goto (kd5 rfl) ?_
      exact (b_Decoder_namesWhatThereIs_222 hd h).less e_sn
def w_Decoder_namesWhatThereIs_240 (s0 : Int32) (M : eM) (Q : Int32 → eM → Prop) : Prop := (s0 = 0 ∨ s0 = 1) ∧ Q s0 M
theorem b_Decoder_namesWhatThereIs_240 {d : Nat} {s0 : Int32} {M : eM} {Q : Int32 → eM → Prop} (hd : 2 ≤ d) (h : w_Decoder_namesWhatThereIs_240 s0 M Q ) : e_E 5 d 0 0 240 [] [.int s0] M (e_QI Q) := by
  unfold w_Decoder_namesWhatThereIs_240 at h
  exact r_zreturn (kd5 rfl) R5 h.1 h.2
def w_Decoder_namesWhatThereIs_258 (s0 : Int32) (M : eM) (Q : Int32 → eM → Prop) : Prop := (s0 = 0 ∨ s0 = 1) ∧ Q s0 M
theorem b_Decoder_namesWhatThereIs_258 {d : Nat} {s0 : Int32} {M : eM} {Q : Int32 → eM → Prop} (hd : 2 ≤ d) (h : w_Decoder_namesWhatThereIs_258 s0 M Q ) : e_E 5 d 0 0 258 [] [.int s0] M (e_QI Q) := by
  unfold w_Decoder_namesWhatThereIs_258 at h
  exact r_zreturn (kd5 rfl) R5 h.1 h.2
def w_Decoder_namesWhatThereIs_57 (l0 : Nat) (l1 : Nat) (l2 : Int32) (l3 : Int32) (l4 : Int32) (M : eM) (Q : Int32 → eM → Prop) : Prop := (l3 = 3 → w_Decoder_namesWhatThereIs_148 l1 l4 M Q) ∧ (¬ l3 = 3 → (l3 = 4 → w_Decoder_namesWhatThereIs_148 l1 l4 M Q) ∧ (¬ l3 = 4 → (l3 = 20 → w_Decoder_namesWhatThereIs_148 l1 l4 M Q) ∧ (¬ l3 = 20 → (l3 = 38 → w_Decoder_namesWhatThereIs_163 l0 l4 M Q) ∧ (¬ l3 = 38 → (l3 = 39 → w_Decoder_namesWhatThereIs_181 l0 l2 l4 M Q) ∧ (¬ l3 = 39 → (l3 = 40 → w_Decoder_namesWhatThereIs_181 l0 l2 l4 M Q) ∧ (¬ l3 = 40 → (l3 = 45 → w_Decoder_namesWhatThereIs_163 l0 l4 M Q) ∧ (¬ l3 = 45 → (l3 = 46 → w_Decoder_namesWhatThereIs_163 l0 l4 M Q) ∧ (¬ l3 = 46 → (l3 = 47 → e_ob M l0 0 ∧ e_ob M (gr M l0 2) 6 ∧ ((gi M (gr M l0 2) 9) ≤ l4 → w_Decoder_namesWhatThereIs_240 0 M Q) ∧ (¬ (gi M (gr M l0 2) 9) ≤ l4 → w_Decoder_namesWhatThereIs_240 1 M Q)) ∧ (¬ l3 = 47 → (l3 = 48 → e_ob M l0 0 ∧ e_ob M (gr M l0 2) 6 ∧ ((gi M (gr M l0 2) 7) ≤ l4 → w_Decoder_namesWhatThereIs_258 0 M Q) ∧ (¬ (gi M (gr M l0 2) 7) ≤ l4 → w_Decoder_namesWhatThereIs_258 1 M Q)) ∧ (¬ l3 = 48 → ((1 : Int32) = 0 ∨ (1 : Int32) = 1) ∧ Q (1 : Int32) M))))))))))
theorem b_Decoder_namesWhatThereIs_57 {d : Nat} {l0 : Nat} {l1 : Nat} {l2 : Int32} {l3 : Int32} {l4 : Int32} {M : eM} {Q : Int32 → eM → Prop} (hd : 2 ≤ d) (h : w_Decoder_namesWhatThereIs_57 l0 l1 l2 l3 l4 M Q ) : e_E 5 d 0 0 57 [(0, .ref l0), (1, .ref l1), (2, .int l2), (3, .int l3), (4, .int l4)] [] M (e_QI Q) := by
  unfold w_Decoder_namesWhatThereIs_57 at h
  refine r_iload_n (kd5 rfl) rfl rfl ?_
  refine r_lookupswitch (kd5 rfl) (u := 259) (qs := [(3, 148), (4, 148), (20, 148), (38, 163), (39, 181), (40, 181), (45, 163), (46, 163), (47, 223), (48, 241)]) rfl rfl (by decide) ?_
  refine ⟨fun c => ?_, fun c => ?_⟩
  · have h := h.1 c
    exact (b_Decoder_namesWhatThereIs_148 hd h).less (e_sc (List.mem_of_getElem? (i := 1) rfl) (e_sc (List.mem_of_getElem? (i := 4) rfl) e_sn))
  have h := h.2 c
  refine ⟨fun c => ?_, fun c => ?_⟩
  · have h := h.1 c
    exact (b_Decoder_namesWhatThereIs_148 hd h).less (e_sc (List.mem_of_getElem? (i := 1) rfl) (e_sc (List.mem_of_getElem? (i := 4) rfl) e_sn))
  have h := h.2 c
  refine ⟨fun c => ?_, fun c => ?_⟩
  · have h := h.1 c
    exact (b_Decoder_namesWhatThereIs_148 hd h).less (e_sc (List.mem_of_getElem? (i := 1) rfl) (e_sc (List.mem_of_getElem? (i := 4) rfl) e_sn))
  have h := h.2 c
  refine ⟨fun c => ?_, fun c => ?_⟩
  · have h := h.1 c
    exact (b_Decoder_namesWhatThereIs_163 hd h).less (e_sc (List.mem_of_getElem? (i := 0) rfl) (e_sc (List.mem_of_getElem? (i := 4) rfl) e_sn))
  have h := h.2 c
  refine ⟨fun c => ?_, fun c => ?_⟩
  · have h := h.1 c
    exact (b_Decoder_namesWhatThereIs_181 hd h).less (e_sc (List.mem_of_getElem? (i := 0) rfl) (e_sc (List.mem_of_getElem? (i := 2) rfl) (e_sc (List.mem_of_getElem? (i := 4) rfl) e_sn)))
  have h := h.2 c
  refine ⟨fun c => ?_, fun c => ?_⟩
  · have h := h.1 c
    exact (b_Decoder_namesWhatThereIs_181 hd h).less (e_sc (List.mem_of_getElem? (i := 0) rfl) (e_sc (List.mem_of_getElem? (i := 2) rfl) (e_sc (List.mem_of_getElem? (i := 4) rfl) e_sn)))
  have h := h.2 c
  refine ⟨fun c => ?_, fun c => ?_⟩
  · have h := h.1 c
    exact (b_Decoder_namesWhatThereIs_163 hd h).less (e_sc (List.mem_of_getElem? (i := 0) rfl) (e_sc (List.mem_of_getElem? (i := 4) rfl) e_sn))
  have h := h.2 c
  refine ⟨fun c => ?_, fun c => ?_⟩
  · have h := h.1 c
    exact (b_Decoder_namesWhatThereIs_163 hd h).less (e_sc (List.mem_of_getElem? (i := 0) rfl) (e_sc (List.mem_of_getElem? (i := 4) rfl) e_sn))
  have h := h.2 c
  refine ⟨fun c => ?_, fun c => ?_⟩
  · have h := h.1 c
    refine r_iload (kd5 rfl) rfl rfl ?_
    refine r_aload_n (kd5 rfl) rfl rfl ?_
    obtain ⟨g, h⟩ := h
    refine r_get2 (kd5 rfl) (by decide) rfl g rfl ?_
    obtain ⟨g, h⟩ := h
    refine r_get0 (kd5 rfl) (by decide) rfl g rfl ?_
    refine r_icmp_ge (kd5 rfl) rfl (fun c => ?_) (fun c => ?_)
    · have h := h.1 c
      refine r_iconst (kd5 rfl) (y := 0) (by decide) rfl ?_
      exact (b_Decoder_namesWhatThereIs_240 hd h).less e_sn
    · have h := h.2 c
      refine r_iconst (kd5 rfl) (y := 1) (by decide) rfl ?_
      refine r_goto (kd5 rfl) ?_
      exact (b_Decoder_namesWhatThereIs_240 hd h).less e_sn
  have h := h.2 c
  refine ⟨fun c => ?_, fun c => ?_⟩
  · have h := h.1 c
    refine r_iload (kd5 rfl) rfl rfl ?_
    refine r_aload_n (kd5 rfl) rfl rfl ?_
    obtain ⟨g, h⟩ := h
    refine r_get2 (kd5 rfl) (by decide) rfl g rfl ?_
    obtain ⟨g, h⟩ := h
    refine r_get0 (kd5 rfl) (by decide) rfl g rfl ?_
    refine r_icmp_ge (kd5 rfl) rfl (fun c => ?_) (fun c => ?_)
    · have h := h.1 c
      refine r_iconst (kd5 rfl) (y := 0) (by decide) rfl ?_
      exact (b_Decoder_namesWhatThereIs_258 hd h).less e_sn
    · have h := h.2 c
      refine r_iconst (kd5 rfl) (y := 1) (by decide) rfl ?_
      refine r_goto (kd5 rfl) ?_
      exact (b_Decoder_namesWhatThereIs_258 hd h).less e_sn
  have h := h.2 c
  show e_E 5 _ _ _ 259 _ _ _ _
  refine r_iconst (kd5 rfl) (y := 1) (by decide) rfl ?_
  exact r_zreturn (kd5 rfl) R5 h.1 h.2
def w_Decoder_namesWhatThereIs (l0 : Nat) (l1 : Nat) (l2 : Int32) (l3 : Int32) (M : eM) (Q : Int32 → eM → Prop) : Prop := (¬ l3 = 53 → e_ai M 2 l3 ∧ (¬ (gi M 2 l3.toNatClampNeg) = 1 → e_ob M l0 0 ∧ e_ob M (gr M l0 2) 6 ∧ e_ai M (gr M (gr M l0 2) 0) (l2 + 1) ∧ (l3 < 21 → w_Decoder_namesWhatThereIs_57 l0 l1 l2 l3 (gi M (gr M (gr M l0 2) 0) (l2 + 1).toNatClampNeg) M Q) ∧ (¬ l3 < 21 → (37 < l3 → w_Decoder_namesWhatThereIs_57 l0 l1 l2 l3 (gi M (gr M (gr M l0 2) 0) (l2 + 1).toNatClampNeg) M Q) ∧ (¬ 37 < l3 → e_ob M l0 0 ∧ w_Decoder_begins l0 l1 (gi M (gr M (gr M l0 2) 0) (l2 + 1).toNatClampNeg) M (fun (v2 : Int32) (M1 : eM) => (v2 = 0 ∨ v2 = 1) ∧ Q v2 M1)))) ∧ ((gi M 2 l3.toNatClampNeg) = 1 → ((1 : Int32) = 0 ∨ (1 : Int32) = 1) ∧ Q (1 : Int32) M)) ∧ (l3 = 53 → e_ob M l0 0 ∧ w_Decoder_choosesWell l0 l1 l2 M (fun (v4 : Int32) (M3 : eM) => (v4 = 0 ∨ v4 = 1) ∧ Q v4 M3))
theorem b_Decoder_namesWhatThereIs {d : Nat} {l0 : Nat} {l1 : Nat} {l2 : Int32} {l3 : Int32} {M : eM} {Q : Int32 → eM → Prop} (hd : 2 ≤ d) (h : w_Decoder_namesWhatThereIs l0 l1 l2 l3 M Q) : e_CI 5 d 0 0 [.ref l0, .ref l1, .int l2, .int l3] M Q := by
  unfold w_Decoder_namesWhatThereIs at h
  show e_E 5 d 0 0 0 [(0, .ref l0), (1, .ref l1), (2, .int l2), (3, .int l3)] [] M (e_QI Q)
  refine r_iload_n (kd5 rfl) rfl rfl ?_
  refine r_bipush (kd5 rfl) (y := 53) (by decide) rfl ?_
  refine r_icmp_ne (kd5 rfl) rfl (fun c => ?_) (fun c => ?_)
  · have h := h.1 c
    refine r_getstatic (kd5 rfl) (by decide) rfl ?_
    refine r_iload_n (kd5 rfl) rfl rfl ?_
    obtain ⟨g, h⟩ := h
    refine r_iaload (kd5 rfl) g rfl ?_
    refine r_iconst (kd5 rfl) (y := 1) (by decide) rfl ?_
    refine r_icmp_ne (kd5 rfl) rfl (fun c => ?_) (fun c => ?_)
    · have h := h.1 c
      refine r_aload_n (kd5 rfl) rfl rfl ?_
      obtain ⟨g, h⟩ := h
      refine r_get2 (kd5 rfl) (by decide) rfl g rfl ?_
      obtain ⟨g, h⟩ := h
      refine r_get2 (kd5 rfl) (by decide) rfl g rfl ?_
      refine r_iload_n (kd5 rfl) rfl rfl ?_
      refine r_iconst (kd5 rfl) (y := 1) (by decide) rfl ?_
      refine r_iadd (kd5 rfl) rfl ?_
      obtain ⟨g, h⟩ := h
      refine r_iaload (kd5 rfl) g rfl ?_
      refine r_istore (kd5 rfl) L5 (by decide) rfl rfl ?_
      refine r_iload_n (kd5 rfl) rfl rfl ?_
      refine r_bipush (kd5 rfl) (y := 21) (by decide) rfl ?_
      refine r_icmp_lt (kd5 rfl) rfl (fun c => ?_) (fun c => ?_)
      · have h := h.1 c
        exact (b_Decoder_namesWhatThereIs_57 hd h).less (e_sc (List.mem_of_getElem? (i := 1) rfl) (e_sc (List.mem_of_getElem? (i := 2) rfl) (e_sc (List.mem_of_getElem? (i := 3) rfl) (e_sc (List.mem_of_getElem? (i := 4) rfl) (e_sc (List.mem_of_getElem? (i := 0) rfl) e_sn)))))
      · have h := h.2 c
        refine r_iload_n (kd5 rfl) rfl rfl ?_
        refine r_bipush (kd5 rfl) (y := 37) (by decide) rfl ?_
        refine r_icmp_gt (kd5 rfl) rfl (fun c => ?_) (fun c => ?_)
        · have h := h.1 c
          exact (b_Decoder_namesWhatThereIs_57 hd h).less (e_sc (List.mem_of_getElem? (i := 1) rfl) (e_sc (List.mem_of_getElem? (i := 2) rfl) (e_sc (List.mem_of_getElem? (i := 3) rfl) (e_sc (List.mem_of_getElem? (i := 4) rfl) (e_sc (List.mem_of_getElem? (i := 0) rfl) e_sn)))))
        · have h := h.2 c
          refine r_aload_n (kd5 rfl) rfl rfl ?_
          refine r_aload_n (kd5 rfl) rfl rfl ?_
          refine r_iload (kd5 rfl) rfl rfl ?_
          obtain ⟨g, h⟩ := h
          refine r_callVI (d' := d - 1) (by omega) (kd5 rfl) (by decide) rfl rfl rfl rfl (Nat.le_of_ble_eq_true rfl) rfl L7 (Nat.le_of_ble_eq_true rfl) (Nat.le_of_ble_eq_true rfl) g (Nat.zero_le _) (Nat.zero_le _) rfl rfl rfl (b_Decoder_begins (by omega) h) (fun x1 M1 h => ?_)
          exact r_zreturn (kd5 rfl) R5 h.1 h.2
    · have h := h.2 c
      refine r_iconst (kd5 rfl) (y := 1) (by decide) rfl ?_
      exact r_zreturn (kd5 rfl) R5 h.1 h.2
  · have h := h.2 c
    refine r_aload_n (kd5 rfl) rfl rfl ?_
    refine r_aload_n (kd5 rfl) rfl rfl ?_
    refine r_iload_n (kd5 rfl) rfl rfl ?_
    obtain ⟨g, h⟩ := h
    refine r_callVI (d' := d - 1) (by omega) (kd5 rfl) (by decide) rfl rfl rfl rfl (Nat.le_of_ble_eq_true rfl) rfl L6 (Nat.le_of_ble_eq_true rfl) (Nat.le_of_ble_eq_true rfl) g (Nat.zero_le _) (Nat.zero_le _) rfl rfl rfl (b_Decoder_choosesWell (by omega) h) (fun x1 M1 h => ?_)
    exact r_zreturn (kd5 rfl) R5 h.1 h.2
/-- TierMill$Decoder.isFaulty(LTierMill$Shape;I)Z -/
theorem kd4 {pc : Nat} {q : eI} (h : e_d4.lookup pc = some q) : e_dec 4 pc = some q := h
theorem L4 : (e_m 4).2.2.1 = 6 := rfl
theorem R4 : (e_m 4).2.2.2.1 = (some .boolean) := rfl
def w_Decoder_isFaulty_101 (s0 : Int32) (M : eM) (Q : Int32 → eM → Prop) : Prop := (s0 = 0 ∨ s0 = 1) ∧ Q s0 M
theorem b_Decoder_isFaulty_101 {d : Nat} {s0 : Int32} {M : eM} {Q : Int32 → eM → Prop} (hd : 3 ≤ d) (h : w_Decoder_isFaulty_101 s0 M Q ) : e_E 4 d 0 0 101 [] [.int s0] M (e_QI Q) := by
  unfold w_Decoder_isFaulty_101 at h
  exact r_zreturn (kd4 rfl) R4 h.1 h.2
def w_Decoder_isFaulty_85 (l0 : Nat) (l1 : Nat) (l2 : Int32) (l4 : Int32) (M : eM) (Q : Int32 → eM → Prop) : Prop := e_ob M l0 0 ∧ w_Decoder_namesWhatThereIs l0 l1 l2 l4 M (fun (v2 : Int32) (M1 : eM) => (¬ v2 = 0 → w_Decoder_isFaulty_101 0 M1 Q) ∧ (v2 = 0 → w_Decoder_isFaulty_101 1 M1 Q))
theorem b_Decoder_isFaulty_85 {d : Nat} {l0 : Nat} {l1 : Nat} {l2 : Int32} {l4 : Int32} {M : eM} {Q : Int32 → eM → Prop} (hd : 3 ≤ d) (h : w_Decoder_isFaulty_85 l0 l1 l2 l4 M Q ) : e_E 4 d 0 0 85 [(0, .ref l0), (1, .ref l1), (2, .int l2), (4, .int l4)] [] M (e_QI Q) := by
  unfold w_Decoder_isFaulty_85 at h
  refine r_aload_n (kd4 rfl) rfl rfl ?_
  refine r_aload_n (kd4 rfl) rfl rfl ?_
  refine r_iload_n (kd4 rfl) rfl rfl ?_
  refine r_iload (kd4 rfl) rfl rfl ?_
  obtain ⟨g, h⟩ := h
  refine r_callVI (d' := d - 1) (by omega) (kd4 rfl) (by decide) rfl rfl rfl rfl (Nat.le_of_ble_eq_true rfl) rfl L5 (Nat.le_of_ble_eq_true rfl) (Nat.le_of_ble_eq_true rfl) g (Nat.zero_le _) (Nat.zero_le _) rfl rfl rfl (b_Decoder_namesWhatThereIs (by omega) h) (fun x1 M1 h => ?_)
  refine r_if_ne (kd4 rfl) rfl (fun c => ?_) (fun c => ?_)
  · have h := h.1 c
    refine r_iconst (kd4 rfl) (y := 0) (by decide) rfl ?_
    exact (b_Decoder_isFaulty_101 hd h).less e_sn
  · have h := h.2 c
    refine r_iconst (kd4 rfl) (y := 1) (by decide) rfl ?_
    refine r_goto (kd4 rfl) ?_
    exact (b_Decoder_isFaulty_101 hd h).less e_sn
def w_Decoder_isFaulty_61 (l0 : Nat) (l1 : Nat) (l2 : Int32) (l3 : Int32) (l4 : Int32) (s0 : Int32) (M : eM) (Q : Int32 → eM → Prop) : Prop := (s0 = 0 → w_Decoder_isFaulty_85 l0 l1 l2 l4 M Q) ∧ (¬ s0 = 0 → e_ob M l1 8 ∧ e_ob M l1 8 ∧ (¬ (l2 + l3) = ((gi M l1 5) + (gi M l1 6)) → w_Decoder_isFaulty_85 l0 l1 l2 l4 M Q) ∧ ((l2 + l3) = ((gi M l1 5) + (gi M l1 6)) → ((1 : Int32) = 0 ∨ (1 : Int32) = 1) ∧ Q (1 : Int32) M))
theorem b_Decoder_isFaulty_61 {d : Nat} {l0 : Nat} {l1 : Nat} {l2 : Int32} {l3 : Int32} {l4 : Int32} {s0 : Int32} {M : eM} {Q : Int32 → eM → Prop} (hd : 3 ≤ d) (h : w_Decoder_isFaulty_61 l0 l1 l2 l3 l4 s0 M Q ) : e_E 4 d 0 0 61 [(0, .ref l0), (1, .ref l1), (2, .int l2), (3, .int l3), (4, .int l4)] [.int s0] M (e_QI Q) := by
  unfold w_Decoder_isFaulty_61 at h
  refine r_istore (kd4 rfl) L4 (by decide) rfl rfl ?_
  refine r_iload (kd4 rfl) rfl rfl ?_
  refine r_if_eq (kd4 rfl) rfl (fun c => ?_) (fun c => ?_)
  · have h := h.1 c
    exact (b_Decoder_isFaulty_85 hd h).less (e_sc (List.mem_of_getElem? (i := 1) rfl) (e_sc (List.mem_of_getElem? (i := 2) rfl) (e_sc (List.mem_of_getElem? (i := 3) rfl) (e_sc (List.mem_of_getElem? (i := 5) rfl) e_sn))))
  · have h := h.2 c
    refine r_iload_n (kd4 rfl) rfl rfl ?_
    refine r_iload_n (kd4 rfl) rfl rfl ?_
    refine r_iadd (kd4 rfl) rfl ?_
    refine r_aload_n (kd4 rfl) rfl rfl ?_
    obtain ⟨g, h⟩ := h
    refine r_get0 (kd4 rfl) (by decide) rfl g rfl ?_
    refine r_aload_n (kd4 rfl) rfl rfl ?_
    obtain ⟨g, h⟩ := h
    refine r_get0 (kd4 rfl) (by decide) rfl g rfl ?_
    refine r_iadd (kd4 rfl) rfl ?_
    refine r_icmp_ne (kd4 rfl) rfl (fun c => ?_) (fun c => ?_)
    · have h := h.1 c
      exact (b_Decoder_isFaulty_85 hd h).less (e_sc (List.mem_of_getElem? (i := 1) rfl) (e_sc (List.mem_of_getElem? (i := 2) rfl) (e_sc (List.mem_of_getElem? (i := 3) rfl) (e_sc (List.mem_of_getElem? (i := 5) rfl) e_sn))))
    · have h := h.2 c
      refine r_iconst (kd4 rfl) (y := 1) (by decide) rfl ?_
      exact r_zreturn (kd4 rfl) R4 h.1 h.2
def w_Decoder_isFaulty_60 (l0 : Nat) (l1 : Nat) (l2 : Int32) (l3 : Int32) (l4 : Int32) (M : eM) (Q : Int32 → eM → Prop) : Prop := w_Decoder_isFaulty_61 l0 l1 l2 l3 l4 0 M Q
theorem b_Decoder_isFaulty_60 {d : Nat} {l0 : Nat} {l1 : Nat} {l2 : Int32} {l3 : Int32} {l4 : Int32} {M : eM} {Q : Int32 → eM → Prop} (hd : 3 ≤ d) (h : w_Decoder_isFaulty_60 l0 l1 l2 l3 l4 M Q ) : e_E 4 d 0 0 60 [(0, .ref l0), (1, .ref l1), (2, .int l2), (3, .int l3), (4, .int l4)] [] M (e_QI Q) := by
  unfold w_Decoder_isFaulty_60 at h
  refine r_iconst (kd4 rfl) (y := 0) (by decide) rfl ?_
  exact (b_Decoder_isFaulty_61 hd h).less (e_sc (List.mem_of_getElem? (i := 0) rfl) (e_sc (List.mem_of_getElem? (i := 1) rfl) (e_sc (List.mem_of_getElem? (i := 2) rfl) (e_sc (List.mem_of_getElem? (i := 3) rfl) (e_sc (List.mem_of_getElem? (i := 4) rfl) e_sn)))))
def w_Decoder_isFaulty (l0 : Nat) (l1 : Nat) (l2 : Int32) (M : eM) (Q : Int32 → eM → Prop) : Prop := e_ob M l0 0 ∧ e_ob M (gr M l0 2) 6 ∧ e_ai M (gr M (gr M l0 2) 12) l2 ∧ (¬ (gi M (gr M (gr M l0 2) 12) l2.toNatClampNeg) = (-1) → e_ob M l0 0 ∧ e_ob M (gr M l0 2) 6 ∧ e_ai M (gr M (gr M l0 2) 0) l2 ∧ ((gi M (gr M (gr M l0 2) 0) l2.toNatClampNeg) = 21 → w_Decoder_isFaulty_60 l0 l1 l2 (gi M (gr M (gr M l0 2) 12) l2.toNatClampNeg) (gi M (gr M (gr M l0 2) 0) l2.toNatClampNeg) M Q) ∧ (¬ (gi M (gr M (gr M l0 2) 0) l2.toNatClampNeg) = 21 → ((gi M (gr M (gr M l0 2) 0) l2.toNatClampNeg) = 49 → w_Decoder_isFaulty_60 l0 l1 l2 (gi M (gr M (gr M l0 2) 12) l2.toNatClampNeg) (gi M (gr M (gr M l0 2) 0) l2.toNatClampNeg) M Q) ∧ (¬ (gi M (gr M (gr M l0 2) 0) l2.toNatClampNeg) = 49 → ((gi M (gr M (gr M l0 2) 0) l2.toNatClampNeg) = 50 → w_Decoder_isFaulty_60 l0 l1 l2 (gi M (gr M (gr M l0 2) 12) l2.toNatClampNeg) (gi M (gr M (gr M l0 2) 0) l2.toNatClampNeg) M Q) ∧ (¬ (gi M (gr M (gr M l0 2) 0) l2.toNatClampNeg) = 50 → ((gi M (gr M (gr M l0 2) 0) l2.toNatClampNeg) = 53 → w_Decoder_isFaulty_60 l0 l1 l2 (gi M (gr M (gr M l0 2) 12) l2.toNatClampNeg) (gi M (gr M (gr M l0 2) 0) l2.toNatClampNeg) M Q) ∧ (¬ (gi M (gr M (gr M l0 2) 0) l2.toNatClampNeg) = 53 → w_Decoder_isFaulty_61 l0 l1 l2 (gi M (gr M (gr M l0 2) 12) l2.toNatClampNeg) (gi M (gr M (gr M l0 2) 0) l2.toNatClampNeg) 1 M Q))))) ∧ ((gi M (gr M (gr M l0 2) 12) l2.toNatClampNeg) = (-1) → ((1 : Int32) = 0 ∨ (1 : Int32) = 1) ∧ Q (1 : Int32) M)
theorem b_Decoder_isFaulty {d : Nat} {l0 : Nat} {l1 : Nat} {l2 : Int32} {M : eM} {Q : Int32 → eM → Prop} (hd : 3 ≤ d) (h : w_Decoder_isFaulty l0 l1 l2 M Q) : e_CI 4 d 0 0 [.ref l0, .ref l1, .int l2] M Q := by
  unfold w_Decoder_isFaulty at h
  show e_E 4 d 0 0 0 [(0, .ref l0), (1, .ref l1), (2, .int l2)] [] M (e_QI Q)
  refine r_aload_n (kd4 rfl) rfl rfl ?_
  obtain ⟨g, h⟩ := h
  refine r_get2 (kd4 rfl) (by decide) rfl g rfl ?_
  obtain ⟨g, h⟩ := h
  refine r_get2 (kd4 rfl) (by decide) rfl g rfl ?_
  refine r_iload_n (kd4 rfl) rfl rfl ?_
  obtain ⟨g, h⟩ := h
  refine r_iaload (kd4 rfl) g rfl ?_
  refine r_istore_n (kd4 rfl) L4 (by decide) rfl rfl ?_
  refine r_iload_n (kd4 rfl) rfl rfl ?_
  refine r_iconst (kd4 rfl) (y := (-1)) (by decide) rfl ?_
  refine r_icmp_ne (kd4 rfl) rfl (fun c => ?_) (fun c => ?_)
  · have h := h.1 c
    refine r_aload_n (kd4 rfl) rfl rfl ?_
    obtain ⟨g, h⟩ := h
    refine r_get2 (kd4 rfl) (by decide) rfl g rfl ?_
    obtain ⟨g, h⟩ := h
    refine r_get2 (kd4 rfl) (by decide) rfl g rfl ?_
    refine r_iload_n (kd4 rfl) rfl rfl ?_
    obtain ⟨g, h⟩ := h
    refine r_iaload (kd4 rfl) g rfl ?_
    refine r_istore (kd4 rfl) L4 (by decide) rfl rfl ?_
    refine r_iload (kd4 rfl) rfl rfl ?_
    refine r_bipush (kd4 rfl) (y := 21) (by decide) rfl ?_
    refine r_icmp_eq (kd4 rfl) rfl (fun c => ?_) (fun c => ?_)
    · have h := h.1 c
      exact (b_Decoder_isFaulty_60 hd h).less (e_sc (List.mem_of_getElem? (i := 2) rfl) (e_sc (List.mem_of_getElem? (i := 3) rfl) (e_sc (List.mem_of_getElem? (i := 4) rfl) (e_sc (List.mem_of_getElem? (i := 1) rfl) (e_sc (List.mem_of_getElem? (i := 0) rfl) e_sn)))))
    · have h := h.2 c
      refine r_iload (kd4 rfl) rfl rfl ?_
      refine r_bipush (kd4 rfl) (y := 49) (by decide) rfl ?_
      refine r_icmp_eq (kd4 rfl) rfl (fun c => ?_) (fun c => ?_)
      · have h := h.1 c
        exact (b_Decoder_isFaulty_60 hd h).less (e_sc (List.mem_of_getElem? (i := 2) rfl) (e_sc (List.mem_of_getElem? (i := 3) rfl) (e_sc (List.mem_of_getElem? (i := 4) rfl) (e_sc (List.mem_of_getElem? (i := 1) rfl) (e_sc (List.mem_of_getElem? (i := 0) rfl) e_sn)))))
      · have h := h.2 c
        refine r_iload (kd4 rfl) rfl rfl ?_
        refine r_bipush (kd4 rfl) (y := 50) (by decide) rfl ?_
        refine r_icmp_eq (kd4 rfl) rfl (fun c => ?_) (fun c => ?_)
        · have h := h.1 c
          exact (b_Decoder_isFaulty_60 hd h).less (e_sc (List.mem_of_getElem? (i := 2) rfl) (e_sc (List.mem_of_getElem? (i := 3) rfl) (e_sc (List.mem_of_getElem? (i := 4) rfl) (e_sc (List.mem_of_getElem? (i := 1) rfl) (e_sc (List.mem_of_getElem? (i := 0) rfl) e_sn)))))
        · have h := h.2 c
          refine r_iload (kd4 rfl) rfl rfl ?_
          refine r_bipush (kd4 rfl) (y := 53) (by decide) rfl ?_
          refine r_icmp_eq (kd4 rfl) rfl (fun c => ?_) (fun c => ?_)
          · have h := h.1 c
            exact (b_Decoder_isFaulty_60 hd h).less (e_sc (List.mem_of_getElem? (i := 2) rfl) (e_sc (List.mem_of_getElem? (i := 3) rfl) (e_sc (List.mem_of_getElem? (i := 4) rfl) (e_sc (List.mem_of_getElem? (i := 1) rfl) (e_sc (List.mem_of_getElem? (i := 0) rfl) e_sn)))))
          · have h := h.2 c
            refine r_iconst (kd4 rfl) (y := 1) (by decide) rfl ?_
            refine r_goto (kd4 rfl) ?_
            exact (b_Decoder_isFaulty_61 hd h).less (e_sc (List.mem_of_getElem? (i := 2) rfl) (e_sc (List.mem_of_getElem? (i := 3) rfl) (e_sc (List.mem_of_getElem? (i := 4) rfl) (e_sc (List.mem_of_getElem? (i := 1) rfl) (e_sc (List.mem_of_getElem? (i := 0) rfl) e_sn)))))
  · have h := h.2 c
    refine r_iconst (kd4 rfl) (y := 1) (by decide) rfl ?_
    exact r_zreturn (kd4 rfl) R4 h.1 h.2
/-- TierMill$Decoder.findsFault(LTierMill$Program;)Z -/
theorem kd1 {pc : Nat} {q : eI} (h : e_d1.lookup pc = some q) : e_dec 1 pc = some q := h
theorem L1 : (e_m 1).2.2.1 = 5 := rfl
theorem R1 : (e_m 1).2.2.2.1 = (some .boolean) := rfl
def w_Decoder_findsFault_99 (kc ks : Nat) (l0 : Nat) (l2 : Int32) (l3 : Nat) (l4 : Int32) (M : eM) (Q : Int32 → eM → Prop) (k15 : Nat → Nat → Nat → Int32 → eM → Prop) (k44 : Nat → Nat → Nat → Int32 → Nat → Int32 → eM → Prop) : Prop := k44 kc ks l0 l2 l3 (l4 + 1) M
theorem b_Decoder_findsFault_99 {d : Nat} {kc ks : Nat} {l0 : Nat} {l2 : Int32} {l3 : Nat} {l4 : Int32} {M : eM} {Q : Int32 → eM → Prop} {k15 : Nat → Nat → Nat → Int32 → eM → Prop} {k44 : Nat → Nat → Nat → Int32 → Nat → Int32 → eM → Prop} (hd : 4 ≤ d) (hk15 : ∀ (kc ks : Nat) (l0 : Nat) (l2 : Int32) (M : eM), k15 kc ks l0 l2 M → e_E 1 d kc ks 15 [(0, .ref l0), (2, .int l2)] [] M (e_QI Q)) (hk44 : ∀ (kc ks : Nat) (l0 : Nat) (l2 : Int32) (l3 : Nat) (l4 : Int32) (M : eM), k44 kc ks l0 l2 l3 l4 M → e_E 1 d kc ks 44 [(0, .ref l0), (2, .int l2), (3, .ref l3), (4, .int l4)] [] M (e_QI Q)) (h : w_Decoder_findsFault_99 kc ks l0 l2 l3 l4 M Q k15 k44) : e_E 1 d kc ks 99 [(0, .ref l0), (2, .int l2), (3, .ref l3), (4, .int l4)] [] M (e_QI Q) := by
  unfold w_Decoder_findsFault_99 at h
  refine r_iinc (kd1 rfl) rfl (y := 1) (by decide) L1 (by decide) rfl rfl ?_
  refine r_goto (kd1 rfl) ?_
  exact (hk44 _ _ _ _ _ _ _ h).less (e_sc (List.mem_of_getElem? (i := 1) rfl) (e_sc (List.mem_of_getElem? (i := 2) rfl) (e_sc (List.mem_of_getElem? (i := 3) rfl) (e_sc (List.mem_of_getElem? (i := 0) rfl) e_sn))))
def w_Decoder_findsFault_44 : Nat → Nat → Nat → Nat → Int32 → Nat → Int32 → eM → (Int32 → eM → Prop) → (Nat → Nat → Nat → Int32 → eM → Prop) → Prop
  | 0, _, _, _, _, _, _, _, _, _ => False
  | n + 1, kc, ks, l0, l2, l3, l4, M, Q, k15 => e_ob M l3 8 ∧ ((gi M l3 6) ≤ l4 → k15 kc ks l0 (l2 + 1) M) ∧ (¬ (gi M l3 6) ≤ l4 → e_ob M l0 0 ∧ e_ob M (gr M l0 2) 6 ∧ e_ob M l3 8 ∧ e_ai M (gr M (gr M l0 2) 12) ((gi M l3 5) + l4) ∧ ((gi M (gr M (gr M l0 2) 12) ((gi M l3 5) + l4).toNatClampNeg) = 0 → w_Decoder_findsFault_99 kc ks l0 l2 l3 l4 M Q k15 (fun kc ks l0 l2 l3 l4 M => w_Decoder_findsFault_44 n kc ks l0 l2 l3 l4 M Q k15)) ∧ (¬ (gi M (gr M (gr M l0 2) 12) ((gi M l3 5) + l4).toNatClampNeg) = 0 → e_ob M l3 8 ∧ e_ob M l0 0 ∧ w_Decoder_isFaulty l0 l3 ((gi M l3 5) + l4) M (fun (v9 : Int32) (M8 : eM) => (v9 = 0 → w_Decoder_findsFault_99 kc ks l0 l2 l3 l4 M8 Q k15 (fun kc ks l0 l2 l3 l4 M => w_Decoder_findsFault_44 n kc ks l0 l2 l3 l4 M Q k15)) ∧ (¬ v9 = 0 → e_ob M8 l0 0 ∧ ∀ M10 : eM, M10 = e_si M8 l0 0 l2 → e_ob M10 l0 0 ∧ ∀ M11 : eM, M11 = e_si M10 l0 1 l4 → ((1 : Int32) = 0 ∨ (1 : Int32) = 1) ∧ Q (1 : Int32) M11))))
theorem b_Decoder_findsFault_44 {d : Nat} {Q : Int32 → eM → Prop} {k15 : Nat → Nat → Nat → Int32 → eM → Prop} (hd : 4 ≤ d) (n : Nat) (hk15 : ∀ (kc ks : Nat) (l0 : Nat) (l2 : Int32) (M : eM), k15 kc ks l0 l2 M → e_E 1 d kc ks 15 [(0, .ref l0), (2, .int l2)] [] M (e_QI Q)) : ∀ (kc ks : Nat) (l0 : Nat) (l2 : Int32) (l3 : Nat) (l4 : Int32) (M : eM), w_Decoder_findsFault_44 n kc ks l0 l2 l3 l4 M Q k15 → e_E 1 d kc ks 44 [(0, .ref l0), (2, .int l2), (3, .ref l3), (4, .int l4)] [] M (e_QI Q) := by
  induction n with
  | zero => intro kc ks l0 l2 l3 l4 M h; exact False.elim h
  | succ n ih =>
    intro kc ks l0 l2 l3 l4 M h
    have hk44 := ih
    refine r_iload (kd1 rfl) rfl rfl ?_
    refine r_aload_n (kd1 rfl) rfl rfl ?_
    obtain ⟨g, h⟩ := h
    refine r_get0 (kd1 rfl) (by decide) rfl g rfl ?_
    refine r_icmp_ge (kd1 rfl) rfl (fun c => ?_) (fun c => ?_)
    · have h := h.1 c
      refine r_iinc (kd1 rfl) rfl (y := 1) (by decide) L1 (by decide) rfl rfl ?_
      refine r_goto (kd1 rfl) ?_
      exact (hk15 _ _ _ _ _ h).less (e_sc (List.mem_of_getElem? (i := 1) rfl) (e_sc (List.mem_of_getElem? (i := 0) rfl) e_sn))
    · have h := h.2 c
      refine r_aload_n (kd1 rfl) rfl rfl ?_
      obtain ⟨g, h⟩ := h
      refine r_get2 (kd1 rfl) (by decide) rfl g rfl ?_
      obtain ⟨g, h⟩ := h
      refine r_get2 (kd1 rfl) (by decide) rfl g rfl ?_
      refine r_aload_n (kd1 rfl) rfl rfl ?_
      obtain ⟨g, h⟩ := h
      refine r_get0 (kd1 rfl) (by decide) rfl g rfl ?_
      refine r_iload (kd1 rfl) rfl rfl ?_
      refine r_iadd (kd1 rfl) rfl ?_
      obtain ⟨g, h⟩ := h
      refine r_iaload (kd1 rfl) g rfl ?_
      refine r_if_eq (kd1 rfl) rfl (fun c => ?_) (fun c => ?_)
      · have h := h.1 c
        exact (b_Decoder_findsFault_99 hd hk15 hk44 h).less (e_sc (List.mem_of_getElem? (i := 0) rfl) (e_sc (List.mem_of_getElem? (i := 1) rfl) (e_sc (List.mem_of_getElem? (i := 2) rfl) (e_sc (List.mem_of_getElem? (i := 3) rfl) e_sn))))
      · have h := h.2 c
        refine r_aload_n (kd1 rfl) rfl rfl ?_
        refine r_aload_n (kd1 rfl) rfl rfl ?_
        refine r_aload_n (kd1 rfl) rfl rfl ?_
        obtain ⟨g, h⟩ := h
        refine r_get0 (kd1 rfl) (by decide) rfl g rfl ?_
        refine r_iload (kd1 rfl) rfl rfl ?_
        refine r_iadd (kd1 rfl) rfl ?_
        obtain ⟨g, h⟩ := h
        refine r_callVI (d' := d - 1) (by omega) (kd1 rfl) (by decide) rfl rfl rfl rfl (Nat.le_of_ble_eq_true rfl) rfl L4 (Nat.le_of_ble_eq_true rfl) (Nat.le_of_ble_eq_true rfl) g (Nat.zero_le _) (Nat.zero_le _) rfl rfl rfl (b_Decoder_isFaulty (by omega) h) (fun x1 M1 h => ?_)
        refine r_if_eq (kd1 rfl) rfl (fun c => ?_) (fun c => ?_)
        · have h := h.1 c
          exact (b_Decoder_findsFault_99 hd hk15 hk44 h).less (e_sc (List.mem_of_getElem? (i := 0) rfl) (e_sc (List.mem_of_getElem? (i := 1) rfl) (e_sc (List.mem_of_getElem? (i := 2) rfl) (e_sc (List.mem_of_getElem? (i := 3) rfl) e_sn))))
        · have h := h.2 c
          refine r_aload_n (kd1 rfl) rfl rfl ?_
          refine r_iload_n (kd1 rfl) rfl rfl ?_
          obtain ⟨g, h⟩ := h
          have h := h _ rfl
          refine r_put0 (kd1 rfl) (by decide) rfl g rfl ?_
          refine r_aload_n (kd1 rfl) rfl rfl ?_
          refine r_iload (kd1 rfl) rfl rfl ?_
          obtain ⟨g, h⟩ := h
          have h := h _ rfl
          refine r_put0 (kd1 rfl) (by decide) rfl g rfl ?_
          refine r_iconst (kd1 rfl) (y := 1) (by decide) rfl ?_
          exact r_zreturn (kd1 rfl) R1 h.1 h.2
def w_Decoder_findsFault_15 : Nat → Nat → Nat → Nat → Int32 → eM → (Int32 → eM → Prop) → Prop
  | 0, _, _, _, _, _, _ => False
  | n + 1, kc, ks, l0, l2, M, Q => e_ob M l0 0 ∧ e_ob M (gr M l0 2) 6 ∧ ((gi M (gr M l0 2) 9) ≤ l2 → ((0 : Int32) = 0 ∨ (0 : Int32) = 1) ∧ Q (0 : Int32) M) ∧ (¬ (gi M (gr M l0 2) 9) ≤ l2 → e_ob M l0 0 ∧ e_ob M (gr M l0 2) 6 ∧ (e_ar M (gr M (gr M l0 2) 10) 23 l2 ∨ e_ar M (gr M (gr M l0 2) 10) 24 l2) ∧ e_ob M l0 0 ∧ ∃ kc5 ks6 : Nat, kc5 ≤ kc ∧ ks6 ≤ ks ∧ w_Decoder_markBegins kc5 ks6 l0 (gr M (gr M (gr M l0 2) 10) l2.toNatClampNeg) M (fun (M4 : eM) => ∃ n7 : Nat, w_Decoder_findsFault_44 n7 (kc - kc5) (ks - ks6) l0 l2 (gr M (gr M (gr M l0 2) 10) l2.toNatClampNeg) 0 M4 Q (fun kc ks l0 l2 M => w_Decoder_findsFault_15 n kc ks l0 l2 M Q )))
theorem b_Decoder_findsFault_15 {d : Nat} {Q : Int32 → eM → Prop} (hd : 4 ≤ d) (n : Nat) : ∀ (kc ks : Nat) (l0 : Nat) (l2 : Int32) (M : eM), w_Decoder_findsFault_15 n kc ks l0 l2 M Q → e_E 1 d kc ks 15 [(0, .ref l0), (2, .int l2)] [] M (e_QI Q) := by
  induction n with
  | zero => intro kc ks l0 l2 M h; exact False.elim h
  | succ n ih =>
    intro kc ks l0 l2 M h
    have hk15 := ih
    refine r_iload_n (kd1 rfl) rfl rfl ?_
    refine r_aload_n (kd1 rfl) rfl rfl ?_
    obtain ⟨g, h⟩ := h
    refine r_get2 (kd1 rfl) (by decide) rfl g rfl ?_
    obtain ⟨g, h⟩ := h
    refine r_get0 (kd1 rfl) (by decide) rfl g rfl ?_
    refine r_icmp_ge (kd1 rfl) rfl (fun c => ?_) (fun c => ?_)
    · have h := h.1 c
      refine r_iconst (kd1 rfl) (y := 0) (by decide) rfl ?_
      exact r_zreturn (kd1 rfl) R1 h.1 h.2
    · have h := h.2 c
      refine r_aload_n (kd1 rfl) rfl rfl ?_
      obtain ⟨g, h⟩ := h
      refine r_get2 (kd1 rfl) (by decide) rfl g rfl ?_
      obtain ⟨g, h⟩ := h
      refine r_get2 (kd1 rfl) (by decide) rfl g rfl ?_
      refine r_iload_n (kd1 rfl) rfl rfl ?_
      obtain ⟨g, h⟩ := h
      refine r_aaload (kd1 rfl) g rfl ?_
      refine r_astore_n (kd1 rfl) L1 (by decide) rfl rfl ?_
      refine r_aload_n (kd1 rfl) rfl rfl ?_
      refine r_aload_n (kd1 rfl) rfl rfl ?_
      obtain ⟨g, h⟩ := h
      obtain ⟨mc, ms, q1, q2, h⟩ := h
      refine r_callVV (d' := d - 1) (by omega) (kd1 rfl) (by decide) rfl rfl rfl rfl (Nat.le_of_ble_eq_true rfl) rfl L2 (Nat.le_of_ble_eq_true rfl) (Nat.le_of_ble_eq_true rfl) g q1 q2 rfl rfl rfl (b_Decoder_markBegins (by omega) h) (fun M1 h => ?_)
      refine r_iconst (kd1 rfl) (y := 0) (by decide) rfl ?_
      refine r_istore (kd1 rfl) L1 (by decide) rfl rfl ?_
      obtain ⟨n, h⟩ := h
      exact (b_Decoder_findsFault_44 hd n hk15 _ _ _ _ _ _ _ h).less (e_sc (List.mem_of_getElem? (i := 2) rfl) (e_sc (List.mem_of_getElem? (i := 3) rfl) (e_sc (List.mem_of_getElem? (i := 1) rfl) (e_sc (List.mem_of_getElem? (i := 0) rfl) e_sn))))
def w_Decoder_findsFault (kc ks : Nat) (l0 : Nat) (l1 : Nat) (M : eM) (Q : Int32 → eM → Prop) : Prop := e_ob M l0 0 ∧ ∀ M1 : eM, M1 = e_sr M l0 2 l1 → e_ob M1 l0 0 ∧ e_ob M1 (gr M1 l0 2) 6 ∧ ∀ M2 : eM, M2 = e_si M1 (gr M1 l0 2) 14 0 → ∃ n3 : Nat, w_Decoder_findsFault_15 n3 kc ks l0 0 M2 Q
theorem b_Decoder_findsFault {d : Nat} {kc ks : Nat} {l0 : Nat} {l1 : Nat} {M : eM} {Q : Int32 → eM → Prop} (hd : 4 ≤ d) (h : w_Decoder_findsFault kc ks l0 l1 M Q) : e_CI 1 d kc ks [.ref l0, .ref l1] M Q := by
  unfold w_Decoder_findsFault at h
  show e_E 1 d kc ks 0 [(0, .ref l0), (1, .ref l1)] [] M (e_QI Q)
  refine r_aload_n (kd1 rfl) rfl rfl ?_
  refine r_aload_n (kd1 rfl) rfl rfl ?_
  obtain ⟨g, h⟩ := h
  have h := h _ rfl
  refine r_put2 (kd1 rfl) (by decide) rfl g rfl ?_
  refine r_aload_n (kd1 rfl) rfl rfl ?_
  obtain ⟨g, h⟩ := h
  refine r_get2 (kd1 rfl) (by decide) rfl g rfl ?_
  refine r_iconst (kd1 rfl) (y := 0) (by decide) rfl ?_
  obtain ⟨g, h⟩ := h
  have h := h _ rfl
  refine r_put0 (kd1 rfl) (by decide) rfl g rfl ?_
  refine r_iconst (kd1 rfl) (y := 0) (by decide) rfl ?_
  refine r_istore_n (kd1 rfl) L1 (by decide) rfl rfl ?_
  obtain ⟨n, h⟩ := h
  exact (b_Decoder_findsFault_15 hd n _ _ _ _ _ h).less (e_sc (List.mem_of_getElem? (i := 1) rfl) (e_sc (List.mem_of_getElem? (i := 0) rfl) e_sn))
/-- TierMill$Entries.<init>()V -/
theorem kd8 {pc : Nat} {q : eI} (h : e_d8.lookup pc = some q) : e_dec 8 pc = some q := h
theorem L8 : (e_m 8).2.2.1 = 1 := rfl
theorem R8 : (e_m 8).2.2.2.1 = none := rfl
def w_Entries_init (kc ks : Nat) (l0 : Nat) (M : eM) (Q : eM → Prop) : Prop := e_c0 ≤ l0 ∧ ¬ (1500 : Int32) < 0 ∧ (1500 : Int32).toNatClampNeg ≤ 400000 ∧ 1 ≤ kc ∧ (1500 : Int32).toNatClampNeg ≤ ks ∧ ∀ M1 : eM, M1 = e_new M 20 (1500 : Int32).toNatClampNeg → e_ob M1 l0 1 ∧ ∀ M2 : eM, M2 = e_sr M1 l0 1 M.1 → Q M2
theorem b_Entries_init {d : Nat} {kc ks : Nat} {l0 : Nat} {M : eM} {Q : eM → Prop} (hd : 0 ≤ d) (h : w_Entries_init kc ks l0 M Q) : e_CV 8 d kc ks [.ref l0] M Q := by
  unfold w_Entries_init at h
  show e_E 8 d kc ks 0 [(0, .ref l0)] [] M (e_QV Q)
  refine r_aload_n (kd8 rfl) rfl rfl ?_
  obtain ⟨g, h⟩ := h
  refine r_objInit (kd8 rfl) g (Nat.le_of_ble_eq_true rfl) rfl ?_
  refine r_aload_n (kd8 rfl) rfl rfl ?_
  refine r_sipush (kd8 rfl) (y := 1500) (by decide) rfl ?_
  obtain ⟨g0, g3, g1, g2, h⟩ := h
  have h := h _ rfl
  refine r_newarray (kd8 rfl) (by decide) g0 g3 g1 g2 rfl ?_
  obtain ⟨g, h⟩ := h
  have h := h _ rfl
  refine r_put2 (kd8 rfl) (by decide) rfl g rfl ?_
  exact r_return (kd8 rfl) R8 h
/-- TierMill$Entries.add(IIIII)V -/
theorem kd9 {pc : Nat} {q : eI} (h : e_d9.lookup pc = some q) : e_dec 9 pc = some q := h
theorem L9 : (e_m 9).2.2.1 = 7 := rfl
theorem R9 : (e_m 9).2.2.2.1 = none := rfl
def w_Entries_add (l0 : Nat) (l1 : Int32) (l2 : Int32) (l3 : Int32) (l4 : Int32) (l5 : Int32) (M : eM) (Q : eM → Prop) : Prop := e_ob M l0 1 ∧ ((gi M l0 0) < 300 → e_ob M l0 1 ∧ e_ob M l0 1 ∧ e_ar M (gr M l0 1) 20 ((gi M l0 0) * 5) ∧ ∀ M1 : eM, M1 = e_si M (gr M l0 1) ((gi M l0 0) * 5).toNatClampNeg l1 → e_ob M1 l0 1 ∧ e_ar M1 (gr M1 l0 1) 20 (((gi M l0 0) * 5) + 1) ∧ ∀ M2 : eM, M2 = e_si M1 (gr M1 l0 1) (((gi M l0 0) * 5) + 1).toNatClampNeg l2 → e_ob M2 l0 1 ∧ e_ar M2 (gr M2 l0 1) 20 (((gi M l0 0) * 5) + 2) ∧ ∀ M3 : eM, M3 = e_si M2 (gr M2 l0 1) (((gi M l0 0) * 5) + 2).toNatClampNeg l3 → e_ob M3 l0 1 ∧ e_ar M3 (gr M3 l0 1) 20 (((gi M l0 0) * 5) + 3) ∧ ∀ M4 : eM, M4 = e_si M3 (gr M3 l0 1) (((gi M l0 0) * 5) + 3).toNatClampNeg l4 → e_ob M4 l0 1 ∧ e_ar M4 (gr M4 l0 1) 20 (((gi M l0 0) * 5) + 4) ∧ ∀ M5 : eM, M5 = e_si M4 (gr M4 l0 1) (((gi M l0 0) * 5) + 4).toNatClampNeg l5 → e_ob M5 l0 1 ∧ e_ob M5 l0 1 ∧ ∀ M6 : eM, M6 = e_si M5 l0 0 ((gi M5 l0 0) + 1) → Q M6) ∧ (¬ (gi M l0 0) < 300 → Q M)
theorem b_Entries_add {d : Nat} {l0 : Nat} {l1 : Int32} {l2 : Int32} {l3 : Int32} {l4 : Int32} {l5 : Int32} {M : eM} {Q : eM → Prop} (hd : 0 ≤ d) (h : w_Entries_add l0 l1 l2 l3 l4 l5 M Q) : e_CV 9 d 0 0 [.ref l0, .int l1, .int l2, .int l3, .int l4, .int l5] M Q := by
  unfold w_Entries_add at h
  show e_E 9 d 0 0 0 [(0, .ref l0), (1, .int l1), (2, .int l2), (3, .int l3), (4, .int l4), (5, .int l5)] [] M (e_QV Q)
  refine r_aload_n (kd9 rfl) rfl rfl ?_
  obtain ⟨g, h⟩ := h
  refine r_get0 (kd9 rfl) (by decide) rfl g rfl ?_
  refine r_sipush (kd9 rfl) (y := 300) (by decide) rfl ?_
  refine r_icmp_lt (kd9 rfl) rfl (fun c => ?_) (fun c => ?_)
  · have h := h.1 c
    refine r_aload_n (kd9 rfl) rfl rfl ?_
    obtain ⟨g, h⟩ := h
    refine r_get0 (kd9 rfl) (by decide) rfl g rfl ?_
    refine r_iconst (kd9 rfl) (y := 5) (by decide) rfl ?_
    refine r_imul (kd9 rfl) rfl ?_
    refine r_istore (kd9 rfl) L9 (by decide) rfl rfl ?_
    refine r_aload_n (kd9 rfl) rfl rfl ?_
    obtain ⟨g, h⟩ := h
    refine r_get2 (kd9 rfl) (by decide) rfl g rfl ?_
    refine r_iload (kd9 rfl) rfl rfl ?_
    refine r_iload_n (kd9 rfl) rfl rfl ?_
    obtain ⟨g, h⟩ := h
    have h := h _ rfl
    refine r_iastore (kd9 rfl) g rfl ?_
    refine r_aload_n (kd9 rfl) rfl rfl ?_
    obtain ⟨g, h⟩ := h
    refine r_get2 (kd9 rfl) (by decide) rfl g rfl ?_
    refine r_iload (kd9 rfl) rfl rfl ?_
    refine r_iconst (kd9 rfl) (y := 1) (by decide) rfl ?_
    refine r_iadd (kd9 rfl) rfl ?_
    refine r_iload_n (kd9 rfl) rfl rfl ?_
    obtain ⟨g, h⟩ := h
    have h := h _ rfl
    refine r_iastore (kd9 rfl) g rfl ?_
    refine r_aload_n (kd9 rfl) rfl rfl ?_
    obtain ⟨g, h⟩ := h
    refine r_get2 (kd9 rfl) (by decide) rfl g rfl ?_
    refine r_iload (kd9 rfl) rfl rfl ?_
    refine r_iconst (kd9 rfl) (y := 2) (by decide) rfl ?_
    refine r_iadd (kd9 rfl) rfl ?_
    refine r_iload_n (kd9 rfl) rfl rfl ?_
    obtain ⟨g, h⟩ := h
    have h := h _ rfl
    refine r_iastore (kd9 rfl) g rfl ?_
    refine r_aload_n (kd9 rfl) rfl rfl ?_
    obtain ⟨g, h⟩ := h
    refine r_get2 (kd9 rfl) (by decide) rfl g rfl ?_
    refine r_iload (kd9 rfl) rfl rfl ?_
    refine r_iconst (kd9 rfl) (y := 3) (by decide) rfl ?_
    refine r_iadd (kd9 rfl) rfl ?_
    refine r_iload (kd9 rfl) rfl rfl ?_
    obtain ⟨g, h⟩ := h
    have h := h _ rfl
    refine r_iastore (kd9 rfl) g rfl ?_
    refine r_aload_n (kd9 rfl) rfl rfl ?_
    obtain ⟨g, h⟩ := h
    refine r_get2 (kd9 rfl) (by decide) rfl g rfl ?_
    refine r_iload (kd9 rfl) rfl rfl ?_
    refine r_iconst (kd9 rfl) (y := 4) (by decide) rfl ?_
    refine r_iadd (kd9 rfl) rfl ?_
    refine r_iload (kd9 rfl) rfl rfl ?_
    obtain ⟨g, h⟩ := h
    have h := h _ rfl
    refine r_iastore (kd9 rfl) g rfl ?_
    refine r_aload_n (kd9 rfl) rfl rfl ?_
    refine r_dup (kd9 rfl) rfl rfl ?_
    obtain ⟨g, h⟩ := h
    refine r_get0 (kd9 rfl) (by decide) rfl g rfl ?_
    refine r_iconst (kd9 rfl) (y := 1) (by decide) rfl ?_
    refine r_iadd (kd9 rfl) rfl ?_
    obtain ⟨g, h⟩ := h
    have h := h _ rfl
    refine r_put0 (kd9 rfl) (by decide) rfl g rfl ?_
    exact r_return (kd9 rfl) R9 h
  · have h := h.2 c
    exact r_return (kd9 rfl) R9 h
/-- TierMill$Frames.<init>()V -/
theorem kd10 {pc : Nat} {q : eI} (h : e_d10.lookup pc = some q) : e_dec 10 pc = some q := h
theorem L10 : (e_m 10).2.2.1 = 1 := rfl
theorem R10 : (e_m 10).2.2.2.1 = none := rfl
def w_Frames_init (kc ks : Nat) (l0 : Nat) (M : eM) (Q : eM → Prop) : Prop := e_c0 ≤ l0 ∧ ¬ (64 : Int32) < 0 ∧ (64 : Int32).toNatClampNeg ≤ 400000 ∧ 1 ≤ kc ∧ (64 : Int32).toNatClampNeg ≤ ks ∧ ∀ M1 : eM, M1 = e_new M 20 (64 : Int32).toNatClampNeg → e_ob M1 l0 2 ∧ ∀ M2 : eM, M2 = e_sr M1 l0 1 M.1 → ¬ (64 : Int32) < 0 ∧ (64 : Int32).toNatClampNeg ≤ 400000 ∧ 1 ≤ (kc - 1) ∧ (64 : Int32).toNatClampNeg ≤ (ks - (64 : Int32).toNatClampNeg) ∧ ∀ M3 : eM, M3 = e_new M2 20 (64 : Int32).toNatClampNeg → e_ob M3 l0 2 ∧ ∀ M4 : eM, M4 = e_sr M3 l0 2 M2.1 → ¬ (64 : Int32) < 0 ∧ (64 : Int32).toNatClampNeg ≤ 400000 ∧ 1 ≤ (kc - 1 - 1) ∧ (64 : Int32).toNatClampNeg ≤ (ks - (64 : Int32).toNatClampNeg - (64 : Int32).toNatClampNeg) ∧ ∀ M5 : eM, M5 = e_new M4 20 (64 : Int32).toNatClampNeg → e_ob M5 l0 2 ∧ ∀ M6 : eM, M6 = e_sr M5 l0 3 M4.1 → ¬ (64 : Int32) < 0 ∧ (64 : Int32).toNatClampNeg ≤ 400000 ∧ 1 ≤ (kc - 1 - 1 - 1) ∧ (64 : Int32).toNatClampNeg ≤ (ks - (64 : Int32).toNatClampNeg - (64 : Int32).toNatClampNeg - (64 : Int32).toNatClampNeg) ∧ ∀ M7 : eM, M7 = e_new M6 20 (64 : Int32).toNatClampNeg → e_ob M7 l0 2 ∧ ∀ M8 : eM, M8 = e_sr M7 l0 4 M6.1 → ¬ (64 : Int32) < 0 ∧ (64 : Int32).toNatClampNeg ≤ 400000 ∧ 1 ≤ (kc - 1 - 1 - 1 - 1) ∧ (64 : Int32).toNatClampNeg ≤ (ks - (64 : Int32).toNatClampNeg - (64 : Int32).toNatClampNeg - (64 : Int32).toNatClampNeg - (64 : Int32).toNatClampNeg) ∧ ∀ M9 : eM, M9 = e_new M8 20 (64 : Int32).toNatClampNeg → e_ob M9 l0 2 ∧ ∀ M10 : eM, M10 = e_sr M9 l0 5 M8.1 → ¬ (64 : Int32) < 0 ∧ (64 : Int32).toNatClampNeg ≤ 400000 ∧ 1 ≤ (kc - 1 - 1 - 1 - 1 - 1) ∧ (64 : Int32).toNatClampNeg ≤ (ks - (64 : Int32).toNatClampNeg - (64 : Int32).toNatClampNeg - (64 : Int32).toNatClampNeg - (64 : Int32).toNatClampNeg - (64 : Int32).toNatClampNeg) ∧ ∀ M11 : eM, M11 = e_new M10 20 (64 : Int32).toNatClampNeg → e_ob M11 l0 2 ∧ ∀ M12 : eM, M12 = e_sr M11 l0 6 M10.1 → ¬ (1024 : Int32) < 0 ∧ (1024 : Int32).toNatClampNeg ≤ 400000 ∧ 1 ≤ (kc - 1 - 1 - 1 - 1 - 1 - 1) ∧ (1024 : Int32).toNatClampNeg ≤ (ks - (64 : Int32).toNatClampNeg - (64 : Int32).toNatClampNeg - (64 : Int32).toNatClampNeg - (64 : Int32).toNatClampNeg - (64 : Int32).toNatClampNeg - (64 : Int32).toNatClampNeg) ∧ ∀ M13 : eM, M13 = e_new M12 20 (1024 : Int32).toNatClampNeg → e_ob M13 l0 2 ∧ ∀ M14 : eM, M14 = e_sr M13 l0 7 M12.1 → Q M14
theorem b_Frames_init {d : Nat} {kc ks : Nat} {l0 : Nat} {M : eM} {Q : eM → Prop} (hd : 0 ≤ d) (h : w_Frames_init kc ks l0 M Q) : e_CV 10 d kc ks [.ref l0] M Q := by
  unfold w_Frames_init at h
  show e_E 10 d kc ks 0 [(0, .ref l0)] [] M (e_QV Q)
  refine r_aload_n (kd10 rfl) rfl rfl ?_
  obtain ⟨g, h⟩ := h
  refine r_objInit (kd10 rfl) g (Nat.le_of_ble_eq_true rfl) rfl ?_
  refine r_aload_n (kd10 rfl) rfl rfl ?_
  refine r_bipush (kd10 rfl) (y := 64) (by decide) rfl ?_
  obtain ⟨g0, g3, g1, g2, h⟩ := h
  have h := h _ rfl
  refine r_newarray (kd10 rfl) (by decide) g0 g3 g1 g2 rfl ?_
  obtain ⟨g, h⟩ := h
  have h := h _ rfl
  refine r_put2 (kd10 rfl) (by decide) rfl g rfl ?_
  refine r_aload_n (kd10 rfl) rfl rfl ?_
  refine r_bipush (kd10 rfl) (y := 64) (by decide) rfl ?_
  obtain ⟨g0, g3, g1, g2, h⟩ := h
  have h := h _ rfl
  refine r_newarray (kd10 rfl) (by decide) g0 g3 g1 g2 rfl ?_
  obtain ⟨g, h⟩ := h
  have h := h _ rfl
  refine r_put2 (kd10 rfl) (by decide) rfl g rfl ?_
  refine r_aload_n (kd10 rfl) rfl rfl ?_
  refine r_bipush (kd10 rfl) (y := 64) (by decide) rfl ?_
  obtain ⟨g0, g3, g1, g2, h⟩ := h
  have h := h _ rfl
  refine r_newarray (kd10 rfl) (by decide) g0 g3 g1 g2 rfl ?_
  obtain ⟨g, h⟩ := h
  have h := h _ rfl
  refine r_put2 (kd10 rfl) (by decide) rfl g rfl ?_
  refine r_aload_n (kd10 rfl) rfl rfl ?_
  refine r_bipush (kd10 rfl) (y := 64) (by decide) rfl ?_
  obtain ⟨g0, g3, g1, g2, h⟩ := h
  have h := h _ rfl
  refine r_newarray (kd10 rfl) (by decide) g0 g3 g1 g2 rfl ?_
  obtain ⟨g, h⟩ := h
  have h := h _ rfl
  refine r_put2 (kd10 rfl) (by decide) rfl g rfl ?_
  refine r_aload_n (kd10 rfl) rfl rfl ?_
  refine r_bipush (kd10 rfl) (y := 64) (by decide) rfl ?_
  obtain ⟨g0, g3, g1, g2, h⟩ := h
  have h := h _ rfl
  refine r_newarray (kd10 rfl) (by decide) g0 g3 g1 g2 rfl ?_
  obtain ⟨g, h⟩ := h
  have h := h _ rfl
  refine r_put2 (kd10 rfl) (by decide) rfl g rfl ?_
  refine r_aload_n (kd10 rfl) rfl rfl ?_
  refine r_bipush (kd10 rfl) (y := 64) (by decide) rfl ?_
  obtain ⟨g0, g3, g1, g2, h⟩ := h
  have h := h _ rfl
  refine r_newarray (kd10 rfl) (by decide) g0 g3 g1 g2 rfl ?_
  obtain ⟨g, h⟩ := h
  have h := h _ rfl
  refine r_put2 (kd10 rfl) (by decide) rfl g rfl ?_
  refine r_aload_n (kd10 rfl) rfl rfl ?_
  refine r_sipush (kd10 rfl) (y := 1024) (by decide) rfl ?_
  obtain ⟨g0, g3, g1, g2, h⟩ := h
  have h := h _ rfl
  refine r_newarray (kd10 rfl) (by decide) g0 g3 g1 g2 rfl ?_
  obtain ⟨g, h⟩ := h
  have h := h _ rfl
  refine r_put2 (kd10 rfl) (by decide) rfl g rfl ?_
  exact r_return (kd10 rfl) R10 h
/-- TierMill$Frames.fromLatest(I)I -/
theorem kd11 {pc : Nat} {q : eI} (h : e_d11.lookup pc = some q) : e_dec 11 pc = some q := h
theorem L11 : (e_m 11).2.2.1 = 2 := rfl
theorem R11 : (e_m 11).2.2.2.1 = (some .int) := rfl
def w_Frames_fromLatest_24 (s0 : Int32) (M : eM) (Q : Int32 → eM → Prop) : Prop := Q s0 M
theorem b_Frames_fromLatest_24 {d : Nat} {s0 : Int32} {M : eM} {Q : Int32 → eM → Prop} (hd : 0 ≤ d) (h : w_Frames_fromLatest_24 s0 M Q ) : e_E 11 d 0 0 24 [] [.int s0] M (e_QI Q) := by
  unfold w_Frames_fromLatest_24 at h
  exact r_ireturn (kd11 rfl) R11 h
def w_Frames_fromLatest_12 (M : eM) (Q : Int32 → eM → Prop) : Prop := w_Frames_fromLatest_24 (-1) M Q
theorem b_Frames_fromLatest_12 {d : Nat} {M : eM} {Q : Int32 → eM → Prop} (hd : 0 ≤ d) (h : w_Frames_fromLatest_12 M Q ) : e_E 11 d 0 0 12 [] [] M (e_QI Q) := by
  unfold w_Frames_fromLatest_12 at h
  refine r_iconst (kd11 rfl) (y := (-1)) (by decide) rfl ?_
  refine r_goto (kd11 rfl) ?_
  exact (b_Frames_fromLatest_24 hd h).less e_sn
def w_Frames_fromLatest (l0 : Nat) (l1 : Int32) (M : eM) (Q : Int32 → eM → Prop) : Prop := (l1 < 0 → w_Frames_fromLatest_12 M Q) ∧ (¬ l1 < 0 → e_ob M l0 2 ∧ (l1 < (gi M l0 0) → e_ob M l0 2 ∧ w_Frames_fromLatest_24 (((gi M l0 0) - 1) - l1) M Q) ∧ (¬ l1 < (gi M l0 0) → w_Frames_fromLatest_12 M Q))
theorem b_Frames_fromLatest {d : Nat} {l0 : Nat} {l1 : Int32} {M : eM} {Q : Int32 → eM → Prop} (hd : 0 ≤ d) (h : w_Frames_fromLatest l0 l1 M Q) : e_CI 11 d 0 0 [.ref l0, .int l1] M Q := by
  unfold w_Frames_fromLatest at h
  show e_E 11 d 0 0 0 [(0, .ref l0), (1, .int l1)] [] M (e_QI Q)
  refine r_iload_n (kd11 rfl) rfl rfl ?_
  refine r_if_lt (kd11 rfl) rfl (fun c => ?_) (fun c => ?_)
  · have h := h.1 c
    exact (b_Frames_fromLatest_12 hd h).less e_sn
  · have h := h.2 c
    refine r_iload_n (kd11 rfl) rfl rfl ?_
    refine r_aload_n (kd11 rfl) rfl rfl ?_
    obtain ⟨g, h⟩ := h
    refine r_get0 (kd11 rfl) (by decide) rfl g rfl ?_
    refine r_icmp_lt (kd11 rfl) rfl (fun c => ?_) (fun c => ?_)
    · have h := h.1 c
      refine r_aload_n (kd11 rfl) rfl rfl ?_
      obtain ⟨g, h⟩ := h
      refine r_get0 (kd11 rfl) (by decide) rfl g rfl ?_
      refine r_iconst (kd11 rfl) (y := 1) (by decide) rfl ?_
      refine r_isub (kd11 rfl) rfl ?_
      refine r_iload_n (kd11 rfl) rfl rfl ?_
      refine r_isub (kd11 rfl) rfl ?_
      exact (b_Frames_fromLatest_24 hd h).less e_sn
    · have h := h.2 c
      exact (b_Frames_fromLatest_12 hd h).less e_sn
/-- TierMill$Frames.open(IIII)V -/
theorem kd12 {pc : Nat} {q : eI} (h : e_d12.lookup pc = some q) : e_dec 12 pc = some q := h
theorem L12 : (e_m 12).2.2.1 = 6 := rfl
theorem R12 : (e_m 12).2.2.2.1 = none := rfl
def w_Frames_open (l0 : Nat) (l1 : Int32) (l2 : Int32) (l3 : Int32) (l4 : Int32) (M : eM) (Q : eM → Prop) : Prop := e_ob M l0 2 ∧ e_ob M l0 2 ∧ e_ar M (gr M l0 1) 20 (gi M l0 0) ∧ ∀ M1 : eM, M1 = e_si M (gr M l0 1) (gi M l0 0).toNatClampNeg l1 → e_ob M1 l0 2 ∧ e_ar M1 (gr M1 l0 2) 20 (gi M l0 0) ∧ ∀ M2 : eM, M2 = e_si M1 (gr M1 l0 2) (gi M l0 0).toNatClampNeg 0 → e_ob M2 l0 2 ∧ e_ar M2 (gr M2 l0 3) 20 (gi M l0 0) ∧ ∀ M3 : eM, M3 = e_si M2 (gr M2 l0 3) (gi M l0 0).toNatClampNeg l2 → e_ob M3 l0 2 ∧ e_ar M3 (gr M3 l0 4) 20 (gi M l0 0) ∧ ∀ M4 : eM, M4 = e_si M3 (gr M3 l0 4) (gi M l0 0).toNatClampNeg l3 → e_ob M4 l0 2 ∧ e_ar M4 (gr M4 l0 5) 20 (gi M l0 0) ∧ ∀ M5 : eM, M5 = e_si M4 (gr M4 l0 5) (gi M l0 0).toNatClampNeg l4 → e_ob M5 l0 2 ∧ e_ar M5 (gr M5 l0 6) 20 (gi M l0 0) ∧ ∀ M6 : eM, M6 = e_si M5 (gr M5 l0 6) (gi M l0 0).toNatClampNeg 0 → e_ob M6 l0 2 ∧ e_ob M6 l0 2 ∧ ∀ M7 : eM, M7 = e_si M6 l0 0 ((gi M6 l0 0) + 1) → Q M7
theorem b_Frames_open {d : Nat} {l0 : Nat} {l1 : Int32} {l2 : Int32} {l3 : Int32} {l4 : Int32} {M : eM} {Q : eM → Prop} (hd : 0 ≤ d) (h : w_Frames_open l0 l1 l2 l3 l4 M Q) : e_CV 12 d 0 0 [.ref l0, .int l1, .int l2, .int l3, .int l4] M Q := by
  unfold w_Frames_open at h
  show e_E 12 d 0 0 0 [(0, .ref l0), (1, .int l1), (2, .int l2), (3, .int l3), (4, .int l4)] [] M (e_QV Q)
  refine r_aload_n (kd12 rfl) rfl rfl ?_
  obtain ⟨g, h⟩ := h
  refine r_get0 (kd12 rfl) (by decide) rfl g rfl ?_
  refine r_istore (kd12 rfl) L12 (by decide) rfl rfl ?_
  refine r_aload_n (kd12 rfl) rfl rfl ?_
  obtain ⟨g, h⟩ := h
  refine r_get2 (kd12 rfl) (by decide) rfl g rfl ?_
  refine r_iload (kd12 rfl) rfl rfl ?_
  refine r_iload_n (kd12 rfl) rfl rfl ?_
  obtain ⟨g, h⟩ := h
  have h := h _ rfl
  refine r_iastore (kd12 rfl) g rfl ?_
  refine r_aload_n (kd12 rfl) rfl rfl ?_
  obtain ⟨g, h⟩ := h
  refine r_get2 (kd12 rfl) (by decide) rfl g rfl ?_
  refine r_iload (kd12 rfl) rfl rfl ?_
  refine r_iconst (kd12 rfl) (y := 0) (by decide) rfl ?_
  obtain ⟨g, h⟩ := h
  have h := h _ rfl
  refine r_iastore (kd12 rfl) g rfl ?_
  refine r_aload_n (kd12 rfl) rfl rfl ?_
  obtain ⟨g, h⟩ := h
  refine r_get2 (kd12 rfl) (by decide) rfl g rfl ?_
  refine r_iload (kd12 rfl) rfl rfl ?_
  refine r_iload_n (kd12 rfl) rfl rfl ?_
  obtain ⟨g, h⟩ := h
  have h := h _ rfl
  refine r_iastore (kd12 rfl) g rfl ?_
  refine r_aload_n (kd12 rfl) rfl rfl ?_
  obtain ⟨g, h⟩ := h
  refine r_get2 (kd12 rfl) (by decide) rfl g rfl ?_
  refine r_iload (kd12 rfl) rfl rfl ?_
  refine r_iload_n (kd12 rfl) rfl rfl ?_
  obtain ⟨g, h⟩ := h
  have h := h _ rfl
  refine r_iastore (kd12 rfl) g rfl ?_
  refine r_aload_n (kd12 rfl) rfl rfl ?_
  obtain ⟨g, h⟩ := h
  refine r_get2 (kd12 rfl) (by decide) rfl g rfl ?_
  refine r_iload (kd12 rfl) rfl rfl ?_
  refine r_iload (kd12 rfl) rfl rfl ?_
  obtain ⟨g, h⟩ := h
  have h := h _ rfl
  refine r_iastore (kd12 rfl) g rfl ?_
  refine r_aload_n (kd12 rfl) rfl rfl ?_
  obtain ⟨g, h⟩ := h
  refine r_get2 (kd12 rfl) (by decide) rfl g rfl ?_
  refine r_iload (kd12 rfl) rfl rfl ?_
  refine r_iconst (kd12 rfl) (y := 0) (by decide) rfl ?_
  obtain ⟨g, h⟩ := h
  have h := h _ rfl
  refine r_iastore (kd12 rfl) g rfl ?_
  refine r_aload_n (kd12 rfl) rfl rfl ?_
  refine r_dup (kd12 rfl) rfl rfl ?_
  obtain ⟨g, h⟩ := h
  refine r_get0 (kd12 rfl) (by decide) rfl g rfl ?_
  refine r_iconst (kd12 rfl) (y := 1) (by decide) rfl ?_
  refine r_iadd (kd12 rfl) rfl ?_
  obtain ⟨g, h⟩ := h
  have h := h _ rfl
  refine r_put0 (kd12 rfl) (by decide) rfl g rfl ?_
  exact r_return (kd12 rfl) R12 h
/-- TierMill$Frames.becomePlain(I)V -/
theorem kd13 {pc : Nat} {q : eI} (h : e_d13.lookup pc = some q) : e_dec 13 pc = some q := h
theorem L13 : (e_m 13).2.2.1 = 2 := rfl
theorem R13 : (e_m 13).2.2.2.1 = none := rfl
def w_Frames_becomePlain (l0 : Nat) (l1 : Int32) (M : eM) (Q : eM → Prop) : Prop := e_ob M l0 2 ∧ e_ar M (gr M l0 3) 20 l1 ∧ ∀ M1 : eM, M1 = e_si M (gr M l0 3) l1.toNatClampNeg 0 → e_ob M1 l0 2 ∧ e_ar M1 (gr M1 l0 4) 20 l1 ∧ ∀ M2 : eM, M2 = e_si M1 (gr M1 l0 4) l1.toNatClampNeg (-1) → e_ob M2 l0 2 ∧ e_ar M2 (gr M2 l0 5) 20 l1 ∧ ∀ M3 : eM, M3 = e_si M2 (gr M2 l0 5) l1.toNatClampNeg (-1) → Q M3
theorem b_Frames_becomePlain {d : Nat} {l0 : Nat} {l1 : Int32} {M : eM} {Q : eM → Prop} (hd : 0 ≤ d) (h : w_Frames_becomePlain l0 l1 M Q) : e_CV 13 d 0 0 [.ref l0, .int l1] M Q := by
  unfold w_Frames_becomePlain at h
  show e_E 13 d 0 0 0 [(0, .ref l0), (1, .int l1)] [] M (e_QV Q)
  refine r_aload_n (kd13 rfl) rfl rfl ?_
  obtain ⟨g, h⟩ := h
  refine r_get2 (kd13 rfl) (by decide) rfl g rfl ?_
  refine r_iload_n (kd13 rfl) rfl rfl ?_
  refine r_iconst (kd13 rfl) (y := 0) (by decide) rfl ?_
  obtain ⟨g, h⟩ := h
  have h := h _ rfl
  refine r_iastore (kd13 rfl) g rfl ?_
  refine r_aload_n (kd13 rfl) rfl rfl ?_
  obtain ⟨g, h⟩ := h
  refine r_get2 (kd13 rfl) (by decide) rfl g rfl ?_
  refine r_iload_n (kd13 rfl) rfl rfl ?_
  refine r_iconst (kd13 rfl) (y := (-1)) (by decide) rfl ?_
  obtain ⟨g, h⟩ := h
  have h := h _ rfl
  refine r_iastore (kd13 rfl) g rfl ?_
  refine r_aload_n (kd13 rfl) rfl rfl ?_
  obtain ⟨g, h⟩ := h
  refine r_get2 (kd13 rfl) (by decide) rfl g rfl ?_
  refine r_iload_n (kd13 rfl) rfl rfl ?_
  refine r_iconst (kd13 rfl) (y := (-1)) (by decide) rfl ?_
  obtain ⟨g, h⟩ := h
  have h := h _ rfl
  refine r_iastore (kd13 rfl) g rfl ?_
  exact r_return (kd13 rfl) R13 h
/-- TierMill$Frames.setArguments(IIII)V -/
theorem kd14 {pc : Nat} {q : eI} (h : e_d14.lookup pc = some q) : e_dec 14 pc = some q := h
theorem L14 : (e_m 14).2.2.1 = 5 := rfl
theorem R14 : (e_m 14).2.2.2.1 = none := rfl
def w_Frames_setArguments (l0 : Nat) (l1 : Int32) (l2 : Int32) (l3 : Int32) (l4 : Int32) (M : eM) (Q : eM → Prop) : Prop := e_ob M l0 2 ∧ e_ar M (gr M l0 7) 20 0 ∧ ∀ M1 : eM, M1 = e_si M (gr M l0 7) (0 : Int32).toNatClampNeg l1 → e_ob M1 l0 2 ∧ e_ar M1 (gr M1 l0 7) 20 1 ∧ ∀ M2 : eM, M2 = e_si M1 (gr M1 l0 7) (1 : Int32).toNatClampNeg l2 → e_ob M2 l0 2 ∧ e_ar M2 (gr M2 l0 7) 20 2 ∧ ∀ M3 : eM, M3 = e_si M2 (gr M2 l0 7) (2 : Int32).toNatClampNeg l3 → e_ob M3 l0 2 ∧ e_ar M3 (gr M3 l0 7) 20 3 ∧ ∀ M4 : eM, M4 = e_si M3 (gr M3 l0 7) (3 : Int32).toNatClampNeg l4 → Q M4
theorem b_Frames_setArguments {d : Nat} {l0 : Nat} {l1 : Int32} {l2 : Int32} {l3 : Int32} {l4 : Int32} {M : eM} {Q : eM → Prop} (hd : 0 ≤ d) (h : w_Frames_setArguments l0 l1 l2 l3 l4 M Q) : e_CV 14 d 0 0 [.ref l0, .int l1, .int l2, .int l3, .int l4] M Q := by
  unfold w_Frames_setArguments at h
  show e_E 14 d 0 0 0 [(0, .ref l0), (1, .int l1), (2, .int l2), (3, .int l3), (4, .int l4)] [] M (e_QV Q)
  refine r_aload_n (kd14 rfl) rfl rfl ?_
  obtain ⟨g, h⟩ := h
  refine r_get2 (kd14 rfl) (by decide) rfl g rfl ?_
  refine r_iconst (kd14 rfl) (y := 0) (by decide) rfl ?_
  refine r_iload_n (kd14 rfl) rfl rfl ?_
  obtain ⟨g, h⟩ := h
  have h := h _ rfl
  refine r_iastore (kd14 rfl) g rfl ?_
  refine r_aload_n (kd14 rfl) rfl rfl ?_
  obtain ⟨g, h⟩ := h
  refine r_get2 (kd14 rfl) (by decide) rfl g rfl ?_
  refine r_iconst (kd14 rfl) (y := 1) (by decide) rfl ?_
  refine r_iload_n (kd14 rfl) rfl rfl ?_
  obtain ⟨g, h⟩ := h
  have h := h _ rfl
  refine r_iastore (kd14 rfl) g rfl ?_
  refine r_aload_n (kd14 rfl) rfl rfl ?_
  obtain ⟨g, h⟩ := h
  refine r_get2 (kd14 rfl) (by decide) rfl g rfl ?_
  refine r_iconst (kd14 rfl) (y := 2) (by decide) rfl ?_
  refine r_iload_n (kd14 rfl) rfl rfl ?_
  obtain ⟨g, h⟩ := h
  have h := h _ rfl
  refine r_iastore (kd14 rfl) g rfl ?_
  refine r_aload_n (kd14 rfl) rfl rfl ?_
  obtain ⟨g, h⟩ := h
  refine r_get2 (kd14 rfl) (by decide) rfl g rfl ?_
  refine r_iconst (kd14 rfl) (y := 3) (by decide) rfl ?_
  refine r_iload (kd14 rfl) rfl rfl ?_
  obtain ⟨g, h⟩ := h
  have h := h _ rfl
  refine r_iastore (kd14 rfl) g rfl ?_
  exact r_return (kd14 rfl) R14 h
/-- TierMill$Frames.handOver(I)V -/
theorem kd15 {pc : Nat} {q : eI} (h : e_d15.lookup pc = some q) : e_dec 15 pc = some q := h
theorem L15 : (e_m 15).2.2.1 = 6 := rfl
theorem R15 : (e_m 15).2.2.2.1 = none := rfl
def w_Frames_handOver_46 : Nat → Nat → Int32 → Int32 → Int32 → Int32 → eM → (eM → Prop) → Prop
  | 0, _, _, _, _, _, _, _ => False
  | n + 1, l0, l1, l3, l4, l5, M, Q => (l1 ≤ l5 → Q M) ∧ (¬ l1 ≤ l5 → e_ob M l0 2 ∧ e_ob M l0 2 ∧ e_ai M (gr M l0 7) (l3 + l5) ∧ e_ar M (gr M l0 7) 20 (l4 + l5) ∧ ∀ M3 : eM, M3 = e_si M (gr M l0 7) (l4 + l5).toNatClampNeg (gi M (gr M l0 7) (l3 + l5).toNatClampNeg) → (fun l0 l1 l3 l4 l5 M => w_Frames_handOver_46 n l0 l1 l3 l4 l5 M Q ) l0 l1 l3 l4 (l5 + 1) M3)
theorem b_Frames_handOver_46 {d : Nat} {Q : eM → Prop} (hd : 0 ≤ d) (n : Nat) : ∀ (l0 : Nat) (l1 : Int32) (l3 : Int32) (l4 : Int32) (l5 : Int32) (M : eM), w_Frames_handOver_46 n l0 l1 l3 l4 l5 M Q → e_E 15 d 0 0 46 [(0, .ref l0), (1, .int l1), (3, .int l3), (4, .int l4), (5, .int l5)] [] M (e_QV Q) := by
  induction n with
  | zero => intro l0 l1 l3 l4 l5 M h; exact False.elim h
  | succ n ih =>
    intro l0 l1 l3 l4 l5 M h
    have hk46 := ih
    refine r_iload (kd15 rfl) rfl rfl ?_
    refine r_iload_n (kd15 rfl) rfl rfl ?_
    refine r_icmp_ge (kd15 rfl) rfl (fun c => ?_) (fun c => ?_)
    · have h := h.1 c
      exact r_return (kd15 rfl) R15 h
    · have h := h.2 c
      refine r_aload_n (kd15 rfl) rfl rfl ?_
      obtain ⟨g, h⟩ := h
      refine r_get2 (kd15 rfl) (by decide) rfl g rfl ?_
      refine r_iload (kd15 rfl) rfl rfl ?_
      refine r_iload (kd15 rfl) rfl rfl ?_
      refine r_iadd (kd15 rfl) rfl ?_
      refine r_aload_n (kd15 rfl) rfl rfl ?_
      obtain ⟨g, h⟩ := h
      refine r_get2 (kd15 rfl) (by decide) rfl g rfl ?_
      refine r_iload_n (kd15 rfl) rfl rfl ?_
      refine r_iload (kd15 rfl) rfl rfl ?_
      refine r_iadd (kd15 rfl) rfl ?_
      obtain ⟨g, h⟩ := h
      refine r_iaload (kd15 rfl) g rfl ?_
      obtain ⟨g, h⟩ := h
      have h := h _ rfl
      refine r_iastore (kd15 rfl) g rfl ?_
      refine r_iinc (kd15 rfl) rfl (y := 1) (by decide) L15 (by decide) rfl rfl ?_
      refine r_goto (kd15 rfl) ?_
      exact (hk46 _ _ _ _ _ _ h).less (e_sc (List.mem_of_getElem? (i := 1) rfl) (e_sc (List.mem_of_getElem? (i := 2) rfl) (e_sc (List.mem_of_getElem? (i := 3) rfl) (e_sc (List.mem_of_getElem? (i := 4) rfl) (e_sc (List.mem_of_getElem? (i := 0) rfl) e_sn)))))
def w_Frames_handOver (l0 : Nat) (l1 : Int32) (M : eM) (Q : eM → Prop) : Prop := e_ob M l0 2 ∧ e_ob M l0 2 ∧ e_ai M (gr M l0 6) ((gi M l0 0) - 2) ∧ e_ar M (gr M l0 6) 20 ((gi M l0 0) - 2) ∧ ∀ M1 : eM, M1 = e_si M (gr M l0 6) ((gi M l0 0) - 2).toNatClampNeg ((gi M (gr M l0 6) ((gi M l0 0) - 2).toNatClampNeg) - l1) → e_ob M1 l0 2 ∧ e_ai M1 (gr M1 l0 6) ((gi M l0 0) - 2) ∧ e_ob M1 l0 2 ∧ ∃ n2 : Nat, w_Frames_handOver_46 n2 l0 l1 (((((gi M l0 0) - 2) * 16) + 8) + (gi M1 (gr M1 l0 6) ((gi M l0 0) - 2).toNatClampNeg)) (((gi M1 l0 0) - 1) * 16) 0 M1 Q
theorem b_Frames_handOver {d : Nat} {l0 : Nat} {l1 : Int32} {M : eM} {Q : eM → Prop} (hd : 0 ≤ d) (h : w_Frames_handOver l0 l1 M Q) : e_CV 15 d 0 0 [.ref l0, .int l1] M Q := by
  unfold w_Frames_handOver at h
  show e_E 15 d 0 0 0 [(0, .ref l0), (1, .int l1)] [] M (e_QV Q)
  refine r_aload_n (kd15 rfl) rfl rfl ?_
  obtain ⟨g, h⟩ := h
  refine r_get0 (kd15 rfl) (by decide) rfl g rfl ?_
  refine r_iconst (kd15 rfl) (y := 2) (by decide) rfl ?_
  refine r_isub (kd15 rfl) rfl ?_
  refine r_istore_n (kd15 rfl) L15 (by decide) rfl rfl ?_
  refine r_aload_n (kd15 rfl) rfl rfl ?_
  obtain ⟨g, h⟩ := h
  refine r_get2 (kd15 rfl) (by decide) rfl g rfl ?_
  refine r_iload_n (kd15 rfl) rfl rfl ?_
  refine r_dup2 (kd15 rfl) rfl rfl rfl ?_
  obtain ⟨g, h⟩ := h
  refine r_iaload (kd15 rfl) g rfl ?_
  refine r_iload_n (kd15 rfl) rfl rfl ?_
  refine r_isub (kd15 rfl) rfl ?_
  obtain ⟨g, h⟩ := h
  have h := h _ rfl
  refine r_iastore (kd15 rfl) g rfl ?_
  refine r_iload_n (kd15 rfl) rfl rfl ?_
  refine r_bipush (kd15 rfl) (y := 16) (by decide) rfl ?_
  refine r_imul (kd15 rfl) rfl ?_
  refine r_bipush (kd15 rfl) (y := 8) (by decide) rfl ?_
  refine r_iadd (kd15 rfl) rfl ?_
  refine r_aload_n (kd15 rfl) rfl rfl ?_
  obtain ⟨g, h⟩ := h
  refine r_get2 (kd15 rfl) (by decide) rfl g rfl ?_
  refine r_iload_n (kd15 rfl) rfl rfl ?_
  obtain ⟨g, h⟩ := h
  refine r_iaload (kd15 rfl) g rfl ?_
  refine r_iadd (kd15 rfl) rfl ?_
  refine r_istore_n (kd15 rfl) L15 (by decide) rfl rfl ?_
  refine r_aload_n (kd15 rfl) rfl rfl ?_
  obtain ⟨g, h⟩ := h
  refine r_get0 (kd15 rfl) (by decide) rfl g rfl ?_
  refine r_iconst (kd15 rfl) (y := 1) (by decide) rfl ?_
  refine r_isub (kd15 rfl) rfl ?_
  refine r_bipush (kd15 rfl) (y := 16) (by decide) rfl ?_
  refine r_imul (kd15 rfl) rfl ?_
  refine r_istore (kd15 rfl) L15 (by decide) rfl rfl ?_
  refine r_iconst (kd15 rfl) (y := 0) (by decide) rfl ?_
  refine r_istore (kd15 rfl) L15 (by decide) rfl rfl ?_
  obtain ⟨n, h⟩ := h
  exact (b_Frames_handOver_46 hd n _ _ _ _ _ _ h).less (e_sc (List.mem_of_getElem? (i := 4) rfl) (e_sc (List.mem_of_getElem? (i := 5) rfl) (e_sc (List.mem_of_getElem? (i := 2) rfl) (e_sc (List.mem_of_getElem? (i := 1) rfl) (e_sc (List.mem_of_getElem? (i := 0) rfl) e_sn)))))
/-- TierMill$Frames.peek(I)I -/
theorem kd16 {pc : Nat} {q : eI} (h : e_d16.lookup pc = some q) : e_dec 16 pc = some q := h
theorem L16 : (e_m 16).2.2.1 = 3 := rfl
theorem R16 : (e_m 16).2.2.2.1 = (some .int) := rfl
def w_Frames_peek (l0 : Nat) (l1 : Int32) (M : eM) (Q : Int32 → eM → Prop) : Prop := e_ob M l0 2 ∧ e_ob M l0 2 ∧ e_ob M l0 2 ∧ e_ai M (gr M l0 6) ((gi M l0 0) - 1) ∧ e_ai M (gr M l0 7) (((((((gi M l0 0) - 1) * 16) + 8) + (gi M (gr M l0 6) ((gi M l0 0) - 1).toNatClampNeg)) - 1) - l1) ∧ Q (gi M (gr M l0 7) (((((((gi M l0 0) - 1) * 16) + 8) + (gi M (gr M l0 6) ((gi M l0 0) - 1).toNatClampNeg)) - 1) - l1).toNatClampNeg) M
theorem b_Frames_peek {d : Nat} {l0 : Nat} {l1 : Int32} {M : eM} {Q : Int32 → eM → Prop} (hd : 0 ≤ d) (h : w_Frames_peek l0 l1 M Q) : e_CI 16 d 0 0 [.ref l0, .int l1] M Q := by
  unfold w_Frames_peek at h
  show e_E 16 d 0 0 0 [(0, .ref l0), (1, .int l1)] [] M (e_QI Q)
  refine r_aload_n (kd16 rfl) rfl rfl ?_
  obtain ⟨g, h⟩ := h
  refine r_get0 (kd16 rfl) (by decide) rfl g rfl ?_
  refine r_iconst (kd16 rfl) (y := 1) (by decide) rfl ?_
  refine r_isub (kd16 rfl) rfl ?_
  refine r_istore_n (kd16 rfl) L16 (by decide) rfl rfl ?_
  refine r_aload_n (kd16 rfl) rfl rfl ?_
  obtain ⟨g, h⟩ := h
  refine r_get2 (kd16 rfl) (by decide) rfl g rfl ?_
  refine r_iload_n (kd16 rfl) rfl rfl ?_
  refine r_bipush (kd16 rfl) (y := 16) (by decide) rfl ?_
  refine r_imul (kd16 rfl) rfl ?_
  refine r_bipush (kd16 rfl) (y := 8) (by decide) rfl ?_
  refine r_iadd (kd16 rfl) rfl ?_
  refine r_aload_n (kd16 rfl) rfl rfl ?_
  obtain ⟨g, h⟩ := h
  refine r_get2 (kd16 rfl) (by decide) rfl g rfl ?_
  refine r_iload_n (kd16 rfl) rfl rfl ?_
  obtain ⟨g, h⟩ := h
  refine r_iaload (kd16 rfl) g rfl ?_
  refine r_iadd (kd16 rfl) rfl ?_
  refine r_iconst (kd16 rfl) (y := 1) (by decide) rfl ?_
  refine r_isub (kd16 rfl) rfl ?_
  refine r_iload_n (kd16 rfl) rfl rfl ?_
  refine r_isub (kd16 rfl) rfl ?_
  obtain ⟨g, h⟩ := h
  refine r_iaload (kd16 rfl) g rfl ?_
  exact r_ireturn (kd16 rfl) R16 h
/-- TierMill$Frames.pop()I -/
theorem kd17 {pc : Nat} {q : eI} (h : e_d17.lookup pc = some q) : e_dec 17 pc = some q := h
theorem L17 : (e_m 17).2.2.1 = 2 := rfl
theorem R17 : (e_m 17).2.2.2.1 = (some .int) := rfl
def w_Frames_pop (l0 : Nat) (M : eM) (Q : Int32 → eM → Prop) : Prop := e_ob M l0 2 ∧ w_Frames_peek l0 0 M (fun (v2 : Int32) (M1 : eM) => e_ob M1 l0 2 ∧ e_ob M1 l0 2 ∧ e_ai M1 (gr M1 l0 6) ((gi M1 l0 0) - 1) ∧ e_ar M1 (gr M1 l0 6) 20 ((gi M1 l0 0) - 1) ∧ ∀ M3 : eM, M3 = e_si M1 (gr M1 l0 6) ((gi M1 l0 0) - 1).toNatClampNeg ((gi M1 (gr M1 l0 6) ((gi M1 l0 0) - 1).toNatClampNeg) - 1) → Q v2 M3)
theorem b_Frames_pop {d : Nat} {l0 : Nat} {M : eM} {Q : Int32 → eM → Prop} (hd : 1 ≤ d) (h : w_Frames_pop l0 M Q) : e_CI 17 d 0 0 [.ref l0] M Q := by
  unfold w_Frames_pop at h
  show e_E 17 d 0 0 0 [(0, .ref l0)] [] M (e_QI Q)
  refine r_aload_n (kd17 rfl) rfl rfl ?_
  refine r_iconst (kd17 rfl) (y := 0) (by decide) rfl ?_
  obtain ⟨g, h⟩ := h
  refine r_callVI (d' := d - 1) (by omega) (kd17 rfl) (by decide) rfl rfl rfl rfl (Nat.le_of_ble_eq_true rfl) rfl L16 (Nat.le_of_ble_eq_true rfl) (Nat.le_of_ble_eq_true rfl) g (Nat.zero_le _) (Nat.zero_le _) rfl rfl rfl (b_Frames_peek (by omega) h) (fun x1 M1 h => ?_)
  refine r_istore_n (kd17 rfl) L17 (by decide) rfl rfl ?_
  refine r_aload_n (kd17 rfl) rfl rfl ?_
  obtain ⟨g, h⟩ := h
  refine r_get2 (kd17 rfl) (by decide) rfl g rfl ?_
  refine r_aload_n (kd17 rfl) rfl rfl ?_
  obtain ⟨g, h⟩ := h
  refine r_get0 (kd17 rfl) (by decide) rfl g rfl ?_
  refine r_iconst (kd17 rfl) (y := 1) (by decide) rfl ?_
  refine r_isub (kd17 rfl) rfl ?_
  refine r_dup2 (kd17 rfl) rfl rfl rfl ?_
  obtain ⟨g, h⟩ := h
  refine r_iaload (kd17 rfl) g rfl ?_
  refine r_iconst (kd17 rfl) (y := 1) (by decide) rfl ?_
  refine r_isub (kd17 rfl) rfl ?_
  obtain ⟨g, h⟩ := h
  have h := h _ rfl
  refine r_iastore (kd17 rfl) g rfl ?_
  refine r_iload_n (kd17 rfl) rfl rfl ?_
  exact r_ireturn (kd17 rfl) R17 h
/-- TierMill$Frames.push(I)V -/
theorem kd18 {pc : Nat} {q : eI} (h : e_d18.lookup pc = some q) : e_dec 18 pc = some q := h
theorem L18 : (e_m 18).2.2.1 = 3 := rfl
theorem R18 : (e_m 18).2.2.2.1 = none := rfl
def w_Frames_push (l0 : Nat) (l1 : Int32) (M : eM) (Q : eM → Prop) : Prop := e_ob M l0 2 ∧ e_ob M l0 2 ∧ e_ob M l0 2 ∧ e_ai M (gr M l0 6) ((gi M l0 0) - 1) ∧ e_ar M (gr M l0 7) 20 (((((gi M l0 0) - 1) * 16) + 8) + (gi M (gr M l0 6) ((gi M l0 0) - 1).toNatClampNeg)) ∧ ∀ M1 : eM, M1 = e_si M (gr M l0 7) (((((gi M l0 0) - 1) * 16) + 8) + (gi M (gr M l0 6) ((gi M l0 0) - 1).toNatClampNeg)).toNatClampNeg l1 → e_ob M1 l0 2 ∧ e_ai M1 (gr M1 l0 6) ((gi M l0 0) - 1) ∧ e_ar M1 (gr M1 l0 6) 20 ((gi M l0 0) - 1) ∧ ∀ M2 : eM, M2 = e_si M1 (gr M1 l0 6) ((gi M l0 0) - 1).toNatClampNeg ((gi M1 (gr M1 l0 6) ((gi M l0 0) - 1).toNatClampNeg) + 1) → Q M2
theorem b_Frames_push {d : Nat} {l0 : Nat} {l1 : Int32} {M : eM} {Q : eM → Prop} (hd : 0 ≤ d) (h : w_Frames_push l0 l1 M Q) : e_CV 18 d 0 0 [.ref l0, .int l1] M Q := by
  unfold w_Frames_push at h
  show e_E 18 d 0 0 0 [(0, .ref l0), (1, .int l1)] [] M (e_QV Q)
  refine r_aload_n (kd18 rfl) rfl rfl ?_
  obtain ⟨g, h⟩ := h
  refine r_get0 (kd18 rfl) (by decide) rfl g rfl ?_
  refine r_iconst (kd18 rfl) (y := 1) (by decide) rfl ?_
  refine r_isub (kd18 rfl) rfl ?_
  refine r_istore_n (kd18 rfl) L18 (by decide) rfl rfl ?_
  refine r_aload_n (kd18 rfl) rfl rfl ?_
  obtain ⟨g, h⟩ := h
  refine r_get2 (kd18 rfl) (by decide) rfl g rfl ?_
  refine r_iload_n (kd18 rfl) rfl rfl ?_
  refine r_bipush (kd18 rfl) (y := 16) (by decide) rfl ?_
  refine r_imul (kd18 rfl) rfl ?_
  refine r_bipush (kd18 rfl) (y := 8) (by decide) rfl ?_
  refine r_iadd (kd18 rfl) rfl ?_
  refine r_aload_n (kd18 rfl) rfl rfl ?_
  obtain ⟨g, h⟩ := h
  refine r_get2 (kd18 rfl) (by decide) rfl g rfl ?_
  refine r_iload_n (kd18 rfl) rfl rfl ?_
  obtain ⟨g, h⟩ := h
  refine r_iaload (kd18 rfl) g rfl ?_
  refine r_iadd (kd18 rfl) rfl ?_
  refine r_iload_n (kd18 rfl) rfl rfl ?_
  obtain ⟨g, h⟩ := h
  have h := h _ rfl
  refine r_iastore (kd18 rfl) g rfl ?_
  refine r_aload_n (kd18 rfl) rfl rfl ?_
  obtain ⟨g, h⟩ := h
  refine r_get2 (kd18 rfl) (by decide) rfl g rfl ?_
  refine r_iload_n (kd18 rfl) rfl rfl ?_
  refine r_dup2 (kd18 rfl) rfl rfl rfl ?_
  obtain ⟨g, h⟩ := h
  refine r_iaload (kd18 rfl) g rfl ?_
  refine r_iconst (kd18 rfl) (y := 1) (by decide) rfl ?_
  refine r_iadd (kd18 rfl) rfl ?_
  obtain ⟨g, h⟩ := h
  have h := h _ rfl
  refine r_iastore (kd18 rfl) g rfl ?_
  exact r_return (kd18 rfl) R18 h
/-- TierMill$Frames.goOn(I)V -/
theorem kd19 {pc : Nat} {q : eI} (h : e_d19.lookup pc = some q) : e_dec 19 pc = some q := h
theorem L19 : (e_m 19).2.2.1 = 2 := rfl
theorem R19 : (e_m 19).2.2.2.1 = none := rfl
def w_Frames_goOn (l0 : Nat) (l1 : Int32) (M : eM) (Q : eM → Prop) : Prop := e_ob M l0 2 ∧ e_ob M l0 2 ∧ e_ai M (gr M l0 2) ((gi M l0 0) - 1) ∧ e_ar M (gr M l0 2) 20 ((gi M l0 0) - 1) ∧ ∀ M1 : eM, M1 = e_si M (gr M l0 2) ((gi M l0 0) - 1).toNatClampNeg ((gi M (gr M l0 2) ((gi M l0 0) - 1).toNatClampNeg) + l1) → Q M1
theorem b_Frames_goOn {d : Nat} {l0 : Nat} {l1 : Int32} {M : eM} {Q : eM → Prop} (hd : 0 ≤ d) (h : w_Frames_goOn l0 l1 M Q) : e_CV 19 d 0 0 [.ref l0, .int l1] M Q := by
  unfold w_Frames_goOn at h
  show e_E 19 d 0 0 0 [(0, .ref l0), (1, .int l1)] [] M (e_QV Q)
  refine r_aload_n (kd19 rfl) rfl rfl ?_
  obtain ⟨g, h⟩ := h
  refine r_get2 (kd19 rfl) (by decide) rfl g rfl ?_
  refine r_aload_n (kd19 rfl) rfl rfl ?_
  obtain ⟨g, h⟩ := h
  refine r_get0 (kd19 rfl) (by decide) rfl g rfl ?_
  refine r_iconst (kd19 rfl) (y := 1) (by decide) rfl ?_
  refine r_isub (kd19 rfl) rfl ?_
  refine r_dup2 (kd19 rfl) rfl rfl rfl ?_
  obtain ⟨g, h⟩ := h
  refine r_iaload (kd19 rfl) g rfl ?_
  refine r_iload_n (kd19 rfl) rfl rfl ?_
  refine r_iadd (kd19 rfl) rfl ?_
  obtain ⟨g, h⟩ := h
  have h := h _ rfl
  refine r_iastore (kd19 rfl) g rfl ?_
  exact r_return (kd19 rfl) R19 h
/-- TierMill$Frames.kindsAt(LTierMill$Program;I)I -/
theorem kd20 {pc : Nat} {q : eI} (h : e_d20.lookup pc = some q) : e_dec 20 pc = some q := h
theorem L20 : (e_m 20).2.2.1 = 4 := rfl
theorem R20 : (e_m 20).2.2.2.1 = (some .int) := rfl
def w_Frames_kindsAt_20 (l0 : Nat) (l1 : Nat) (l2 : Int32) (s0 : Int32) (M : eM) (Q : Int32 → eM → Prop) : Prop := e_ob M l1 6 ∧ e_ob M l0 2 ∧ e_ai M (gr M l0 1) l2 ∧ (e_ar M (gr M l1 10) 23 (gi M (gr M l0 1) l2.toNatClampNeg) ∨ e_ar M (gr M l1 10) 24 (gi M (gr M l0 1) l2.toNatClampNeg)) ∧ e_ob M (gr M (gr M l1 10) (gi M (gr M l0 1) l2.toNatClampNeg).toNatClampNeg) 8 ∧ e_ob M l0 2 ∧ e_ai M (gr M l0 2) l2 ∧ Q (((gi M (gr M (gr M l1 10) (gi M (gr M l0 1) l2.toNatClampNeg).toNatClampNeg) 5) + (gi M (gr M l0 2) l2.toNatClampNeg)) - s0) M
theorem b_Frames_kindsAt_20 {d : Nat} {l0 : Nat} {l1 : Nat} {l2 : Int32} {s0 : Int32} {M : eM} {Q : Int32 → eM → Prop} (hd : 0 ≤ d) (h : w_Frames_kindsAt_20 l0 l1 l2 s0 M Q ) : e_E 20 d 0 0 20 [(0, .ref l0), (1, .ref l1), (2, .int l2)] [.int s0] M (e_QI Q) := by
  unfold w_Frames_kindsAt_20 at h
  refine r_istore_n (kd20 rfl) L20 (by decide) rfl rfl ?_
  refine r_aload_n (kd20 rfl) rfl rfl ?_
  obtain ⟨g, h⟩ := h
  refine r_get2 (kd20 rfl) (by decide) rfl g rfl ?_
  refine r_aload_n (kd20 rfl) rfl rfl ?_
  obtain ⟨g, h⟩ := h
  refine r_get2 (kd20 rfl) (by decide) rfl g rfl ?_
  refine r_iload_n (kd20 rfl) rfl rfl ?_
  obtain ⟨g, h⟩ := h
  refine r_iaload (kd20 rfl) g rfl ?_
  obtain ⟨g, h⟩ := h
  refine r_aaload (kd20 rfl) g rfl ?_
  obtain ⟨g, h⟩ := h
  refine r_get0 (kd20 rfl) (by decide) rfl g rfl ?_
  refine r_aload_n (kd20 rfl) rfl rfl ?_
  obtain ⟨g, h⟩ := h
  refine r_get2 (kd20 rfl) (by decide) rfl g rfl ?_
  refine r_iload_n (kd20 rfl) rfl rfl ?_
  obtain ⟨g, h⟩ := h
  refine r_iaload (kd20 rfl) g rfl ?_
  refine r_iadd (kd20 rfl) rfl ?_
  refine r_iload_n (kd20 rfl) rfl rfl ?_
  refine r_isub (kd20 rfl) rfl ?_
  exact r_ireturn (kd20 rfl) R20 h
def w_Frames_kindsAt (l0 : Nat) (l1 : Nat) (l2 : Int32) (M : eM) (Q : Int32 → eM → Prop) : Prop := e_ob M l0 2 ∧ (¬ l2 = ((gi M l0 0) - 1) → e_ai M 2 47 ∧ w_Frames_kindsAt_20 l0 l1 l2 (gi M 2 (47 : Int32).toNatClampNeg) M Q) ∧ (l2 = ((gi M l0 0) - 1) → w_Frames_kindsAt_20 l0 l1 l2 0 M Q)
theorem b_Frames_kindsAt {d : Nat} {l0 : Nat} {l1 : Nat} {l2 : Int32} {M : eM} {Q : Int32 → eM → Prop} (hd : 0 ≤ d) (h : w_Frames_kindsAt l0 l1 l2 M Q) : e_CI 20 d 0 0 [.ref l0, .ref l1, .int l2] M Q := by
  unfold w_Frames_kindsAt at h
  show e_E 20 d 0 0 0 [(0, .ref l0), (1, .ref l1), (2, .int l2)] [] M (e_QI Q)
  refine r_iload_n (kd20 rfl) rfl rfl ?_
  refine r_aload_n (kd20 rfl) rfl rfl ?_
  obtain ⟨g, h⟩ := h
  refine r_get0 (kd20 rfl) (by decide) rfl g rfl ?_
  refine r_iconst (kd20 rfl) (y := 1) (by decide) rfl ?_
  refine r_isub (kd20 rfl) rfl ?_
  refine r_icmp_ne (kd20 rfl) rfl (fun c => ?_) (fun c => ?_)
  · have h := h.1 c
    refine r_getstatic (kd20 rfl) (by decide) rfl ?_
    refine r_bipush (kd20 rfl) (y := 47) (by decide) rfl ?_
    obtain ⟨g, h⟩ := h
    refine r_iaload (kd20 rfl) g rfl ?_
    exact (b_Frames_kindsAt_20 hd h).less (e_sc (List.mem_of_getElem? (i := 0) rfl) (e_sc (List.mem_of_getElem? (i := 1) rfl) (e_sc (List.mem_of_getElem? (i := 2) rfl) e_sn)))
  · have h := h.2 c
    refine r_iconst (kd20 rfl) (y := 0) (by decide) rfl ?_
    refine r_goto (kd20 rfl) ?_
    exact (b_Frames_kindsAt_20 hd h).less (e_sc (List.mem_of_getElem? (i := 0) rfl) (e_sc (List.mem_of_getElem? (i := 1) rfl) (e_sc (List.mem_of_getElem? (i := 2) rfl) e_sn)))
/-- TierMill$Program.kindIn(JI)I -/
theorem kd69 {pc : Nat} {q : eI} (h : e_d69.lookup pc = some q) : e_dec 69 pc = some q := h
theorem L69 : (e_m 69).2.2.1 = 3 := rfl
theorem R69 : (e_m 69).2.2.2.1 = (some .int) := rfl
def w_Program_kindIn (l0 : Int64) (l2 : Int32) (M : eM) (Q : Int32 → eM → Prop) : Prop := Q ((((l0.toUInt64 >>> ((8 * l2).toInt64.toUInt64 &&& Int64.toUInt64 63)).toInt64).toInt32) &&& 255) M
theorem b_Program_kindIn {d : Nat} {l0 : Int64} {l2 : Int32} {M : eM} {Q : Int32 → eM → Prop} (hd : 0 ≤ d) (h : w_Program_kindIn l0 l2 M Q) : e_CI 69 d 0 0 [.long l0, .int l2] M Q := by
  unfold w_Program_kindIn at h
  show e_E 69 d 0 0 0 [(0, .long l0), (2, .int l2)] [] M (e_QI Q)
  refine r_lload_n (kd69 rfl) rfl rfl ?_
  refine r_bipush (kd69 rfl) (y := 8) (by decide) rfl ?_
  refine r_iload_n (kd69 rfl) rfl rfl ?_
  refine r_imul (kd69 rfl) rfl ?_
  refine r_lushr (kd69 rfl) rfl ?_
  refine r_l2i (kd69 rfl) rfl ?_
  refine r_sipush (kd69 rfl) (y := 255) (by decide) rfl ?_
  refine r_iand (kd69 rfl) rfl ?_
  exact r_ireturn (kd69 rfl) R69 h
/-- TierMill$Program.kindAt(II)I -/
theorem kd68 {pc : Nat} {q : eI} (h : e_d68.lookup pc = some q) : e_dec 68 pc = some q := h
theorem L68 : (e_m 68).2.2.1 = 3 := rfl
theorem R68 : (e_m 68).2.2.2.1 = (some .int) := rfl
def w_Program_kindAt_32 (s0 : Int32) (M : eM) (Q : Int32 → eM → Prop) : Prop := Q s0 M
theorem b_Program_kindAt_32 {d : Nat} {s0 : Int32} {M : eM} {Q : Int32 → eM → Prop} (hd : 1 ≤ d) (h : w_Program_kindAt_32 s0 M Q ) : e_E 68 d 0 0 32 [] [.int s0] M (e_QI Q) := by
  unfold w_Program_kindAt_32 at h
  exact r_ireturn (kd68 rfl) R68 h
def w_Program_kindAt (l0 : Nat) (l1 : Int32) (l2 : Int32) (M : eM) (Q : Int32 → eM → Prop) : Prop := (8 ≤ l2 → e_ob M l0 6 ∧ e_ar M (gr M l0 17) 21 l1 ∧ w_Program_kindIn (gl M (gr M l0 17) l1.toNatClampNeg) (l2 - 8) M (fun (v2 : Int32) (M1 : eM) => w_Program_kindAt_32 v2 M1 Q)) ∧ (¬ 8 ≤ l2 → e_ob M l0 6 ∧ e_ar M (gr M l0 16) 21 l1 ∧ w_Program_kindIn (gl M (gr M l0 16) l1.toNatClampNeg) l2 M (fun (v4 : Int32) (M3 : eM) => w_Program_kindAt_32 v4 M3 Q))
theorem b_Program_kindAt {d : Nat} {l0 : Nat} {l1 : Int32} {l2 : Int32} {M : eM} {Q : Int32 → eM → Prop} (hd : 1 ≤ d) (h : w_Program_kindAt l0 l1 l2 M Q) : e_CI 68 d 0 0 [.ref l0, .int l1, .int l2] M Q := by
  unfold w_Program_kindAt at h
  show e_E 68 d 0 0 0 [(0, .ref l0), (1, .int l1), (2, .int l2)] [] M (e_QI Q)
  refine r_iload_n (kd68 rfl) rfl rfl ?_
  refine r_bipush (kd68 rfl) (y := 8) (by decide) rfl ?_
  refine r_icmp_ge (kd68 rfl) rfl (fun c => ?_) (fun c => ?_)
  · have h := h.1 c
    refine r_aload_n (kd68 rfl) rfl rfl ?_
    obtain ⟨g, h⟩ := h
    refine r_get2 (kd68 rfl) (by decide) rfl g rfl ?_
    refine r_iload_n (kd68 rfl) rfl rfl ?_
    obtain ⟨g, h⟩ := h
    refine r_laload (kd68 rfl) g rfl ?_
    refine r_iload_n (kd68 rfl) rfl rfl ?_
    refine r_bipush (kd68 rfl) (y := 8) (by decide) rfl ?_
    refine r_isub (kd68 rfl) rfl ?_
    refine r_callSI (d' := d - 1) (by omega) (kd68 rfl) (by decide) rfl rfl rfl rfl (Nat.le_of_ble_eq_true rfl) rfl L69 (Nat.le_of_ble_eq_true rfl) (Nat.le_of_ble_eq_true rfl) (Nat.zero_le _) (Nat.zero_le _) rfl rfl rfl (b_Program_kindIn (by omega) h) (fun x1 M1 h => ?_)
    exact (b_Program_kindAt_32 hd h).less e_sn
  · have h := h.2 c
    refine r_aload_n (kd68 rfl) rfl rfl ?_
    obtain ⟨g, h⟩ := h
    refine r_get2 (kd68 rfl) (by decide) rfl g rfl ?_
    refine r_iload_n (kd68 rfl) rfl rfl ?_
    obtain ⟨g, h⟩ := h
    refine r_laload (kd68 rfl) g rfl ?_
    refine r_iload_n (kd68 rfl) rfl rfl ?_
    refine r_callSI (d' := d - 1) (by omega) (kd68 rfl) (by decide) rfl rfl rfl rfl (Nat.le_of_ble_eq_true rfl) rfl L69 (Nat.le_of_ble_eq_true rfl) (Nat.le_of_ble_eq_true rfl) (Nat.zero_le _) (Nat.zero_le _) rfl rfl rfl (b_Program_kindIn (by omega) h) (fun x1 M1 h => ?_)
    refine r_goto (kd68 rfl) ?_
    exact (b_Program_kindAt_32 hd h).less e_sn
/-- TierMill$Frames.kindOf(LTierMill$Program;II)I -/
theorem kd21 {pc : Nat} {q : eI} (h : e_d21.lookup pc = some q) : e_dec 21 pc = some q := h
theorem L21 : (e_m 21).2.2.1 = 4 := rfl
theorem R21 : (e_m 21).2.2.2.1 = (some .int) := rfl
def w_Frames_kindOf (l0 : Nat) (l1 : Nat) (l2 : Int32) (l3 : Int32) (M : eM) (Q : Int32 → eM → Prop) : Prop := e_ob M l0 2 ∧ w_Frames_kindsAt l0 l1 l2 M (fun (v2 : Int32) (M1 : eM) => e_ob M1 l1 6 ∧ w_Program_kindAt l1 v2 l3 M1 (fun (v4 : Int32) (M3 : eM) => Q v4 M3))
theorem b_Frames_kindOf {d : Nat} {l0 : Nat} {l1 : Nat} {l2 : Int32} {l3 : Int32} {M : eM} {Q : Int32 → eM → Prop} (hd : 2 ≤ d) (h : w_Frames_kindOf l0 l1 l2 l3 M Q) : e_CI 21 d 0 0 [.ref l0, .ref l1, .int l2, .int l3] M Q := by
  unfold w_Frames_kindOf at h
  show e_E 21 d 0 0 0 [(0, .ref l0), (1, .ref l1), (2, .int l2), (3, .int l3)] [] M (e_QI Q)
  refine r_aload_n (kd21 rfl) rfl rfl ?_
  refine r_aload_n (kd21 rfl) rfl rfl ?_
  refine r_aload_n (kd21 rfl) rfl rfl ?_
  refine r_iload_n (kd21 rfl) rfl rfl ?_
  obtain ⟨g, h⟩ := h
  refine r_callVI (d' := d - 1) (by omega) (kd21 rfl) (by decide) rfl rfl rfl rfl (Nat.le_of_ble_eq_true rfl) rfl L20 (Nat.le_of_ble_eq_true rfl) (Nat.le_of_ble_eq_true rfl) g (Nat.zero_le _) (Nat.zero_le _) rfl rfl rfl (b_Frames_kindsAt (by omega) h) (fun x1 M1 h => ?_)
  refine r_iload_n (kd21 rfl) rfl rfl ?_
  obtain ⟨g, h⟩ := h
  refine r_callVI (d' := d - 1) (by omega) (kd21 rfl) (by decide) rfl rfl rfl rfl (Nat.le_of_ble_eq_true rfl) rfl L68 (Nat.le_of_ble_eq_true rfl) (Nat.le_of_ble_eq_true rfl) g (Nat.zero_le _) (Nat.zero_le _) rfl rfl rfl (b_Program_kindAt (by omega) h) (fun x1 M1 h => ?_)
  exact r_ireturn (kd21 rfl) R21 h
/-- TierMill$Heap.<init>()V -/
theorem kd22 {pc : Nat} {q : eI} (h : e_d22.lookup pc = some q) : e_dec 22 pc = some q := h
theorem L22 : (e_m 22).2.2.1 = 1 := rfl
theorem R22 : (e_m 22).2.2.2.1 = none := rfl
def w_Heap_init (kc ks : Nat) (l0 : Nat) (M : eM) (Q : eM → Prop) : Prop := e_c0 ≤ l0 ∧ ¬ (4001 : Int32) < 0 ∧ (4001 : Int32).toNatClampNeg ≤ 400000 ∧ 1 ≤ kc ∧ (4001 : Int32).toNatClampNeg ≤ ks ∧ ∀ M1 : eM, M1 = e_new M 20 (4001 : Int32).toNatClampNeg → e_ob M1 l0 3 ∧ ∀ M2 : eM, M2 = e_sr M1 l0 3 M.1 → ¬ (4001 : Int32) < 0 ∧ (4001 : Int32).toNatClampNeg ≤ 400000 ∧ 1 ≤ (kc - 1) ∧ (4001 : Int32).toNatClampNeg ≤ (ks - (4001 : Int32).toNatClampNeg) ∧ ∀ M3 : eM, M3 = e_new M2 20 (4001 : Int32).toNatClampNeg → e_ob M3 l0 3 ∧ ∀ M4 : eM, M4 = e_sr M3 l0 4 M2.1 → Q M4
theorem b_Heap_init {d : Nat} {kc ks : Nat} {l0 : Nat} {M : eM} {Q : eM → Prop} (hd : 0 ≤ d) (h : w_Heap_init kc ks l0 M Q) : e_CV 22 d kc ks [.ref l0] M Q := by
  unfold w_Heap_init at h
  show e_E 22 d kc ks 0 [(0, .ref l0)] [] M (e_QV Q)
  refine r_aload_n (kd22 rfl) rfl rfl ?_
  obtain ⟨g, h⟩ := h
  refine r_objInit (kd22 rfl) g (Nat.le_of_ble_eq_true rfl) rfl ?_
  refine r_aload_n (kd22 rfl) rfl rfl ?_
  refine r_sipush (kd22 rfl) (y := 4001) (by decide) rfl ?_
  obtain ⟨g0, g3, g1, g2, h⟩ := h
  have h := h _ rfl
  refine r_newarray (kd22 rfl) (by decide) g0 g3 g1 g2 rfl ?_
  obtain ⟨g, h⟩ := h
  have h := h _ rfl
  refine r_put2 (kd22 rfl) (by decide) rfl g rfl ?_
  refine r_aload_n (kd22 rfl) rfl rfl ?_
  refine r_sipush (kd22 rfl) (y := 4001) (by decide) rfl ?_
  obtain ⟨g0, g3, g1, g2, h⟩ := h
  have h := h _ rfl
  refine r_newarray (kd22 rfl) (by decide) g0 g3 g1 g2 rfl ?_
  obtain ⟨g, h⟩ := h
  have h := h _ rfl
  refine r_put2 (kd22 rfl) (by decide) rfl g rfl ?_
  exact r_return (kd22 rfl) R22 h
/-- TierMill$Heap.clear(I)V -/
theorem kd23 {pc : Nat} {q : eI} (h : e_d23.lookup pc = some q) : e_dec 23 pc = some q := h
theorem L23 : (e_m 23).2.2.1 = 2 := rfl
theorem R23 : (e_m 23).2.2.2.1 = none := rfl
def w_Heap_clear (l0 : Nat) (l1 : Int32) (M : eM) (Q : eM → Prop) : Prop := e_ob M l0 3 ∧ ∀ M1 : eM, M1 = e_si M l0 0 l1 → e_ob M1 l0 3 ∧ ∀ M2 : eM, M2 = e_si M1 l0 1 0 → e_ob M2 l0 3 ∧ ∀ M3 : eM, M3 = e_si M2 l0 2 0 → Q M3
theorem b_Heap_clear {d : Nat} {l0 : Nat} {l1 : Int32} {M : eM} {Q : eM → Prop} (hd : 0 ≤ d) (h : w_Heap_clear l0 l1 M Q) : e_CV 23 d 0 0 [.ref l0, .int l1] M Q := by
  unfold w_Heap_clear at h
  show e_E 23 d 0 0 0 [(0, .ref l0), (1, .int l1)] [] M (e_QV Q)
  refine r_aload_n (kd23 rfl) rfl rfl ?_
  refine r_iload_n (kd23 rfl) rfl rfl ?_
  obtain ⟨g, h⟩ := h
  have h := h _ rfl
  refine r_put0 (kd23 rfl) (by decide) rfl g rfl ?_
  refine r_aload_n (kd23 rfl) rfl rfl ?_
  refine r_iconst (kd23 rfl) (y := 0) (by decide) rfl ?_
  obtain ⟨g, h⟩ := h
  have h := h _ rfl
  refine r_put0 (kd23 rfl) (by decide) rfl g rfl ?_
  refine r_aload_n (kd23 rfl) rfl rfl ?_
  refine r_iconst (kd23 rfl) (y := 0) (by decide) rfl ?_
  obtain ⟨g, h⟩ := h
  have h := h _ rfl
  refine r_put0 (kd23 rfl) (by decide) rfl g rfl ?_
  exact r_return (kd23 rfl) R23 h
/-- TierMill$Heap.hasRoom(J)Z -/
theorem kd24 {pc : Nat} {q : eI} (h : e_d24.lookup pc = some q) : e_dec 24 pc = some q := h
theorem L24 : (e_m 24).2.2.1 = 3 := rfl
theorem R24 : (e_m 24).2.2.2.1 = (some .boolean) := rfl
def w_Heap_hasRoom_21 (s0 : Int32) (M : eM) (Q : Int32 → eM → Prop) : Prop := (s0 = 0 ∨ s0 = 1) ∧ Q s0 M
theorem b_Heap_hasRoom_21 {d : Nat} {s0 : Int32} {M : eM} {Q : Int32 → eM → Prop} (hd : 0 ≤ d) (h : w_Heap_hasRoom_21 s0 M Q ) : e_E 24 d 0 0 21 [] [.int s0] M (e_QI Q) := by
  unfold w_Heap_hasRoom_21 at h
  exact r_zreturn (kd24 rfl) R24 h.1 h.2
def w_Heap_hasRoom (l0 : Nat) (l1 : Int64) (M : eM) (Q : Int32 → eM → Prop) : Prop := e_ob M l0 3 ∧ e_ob M l0 3 ∧ (0 < (lg_cmp (((gi M l0 1).toInt64) + l1) ((gi M l0 0).toInt64)) → w_Heap_hasRoom_21 0 M Q) ∧ (¬ 0 < (lg_cmp (((gi M l0 1).toInt64) + l1) ((gi M l0 0).toInt64)) → w_Heap_hasRoom_21 1 M Q)
theorem b_Heap_hasRoom {d : Nat} {l0 : Nat} {l1 : Int64} {M : eM} {Q : Int32 → eM → Prop} (hd : 0 ≤ d) (h : w_Heap_hasRoom l0 l1 M Q) : e_CI 24 d 0 0 [.ref l0, .long l1] M Q := by
  unfold w_Heap_hasRoom at h
  show e_E 24 d 0 0 0 [(0, .ref l0), (1, .long l1)] [] M (e_QI Q)
  refine r_aload_n (kd24 rfl) rfl rfl ?_
  obtain ⟨g, h⟩ := h
  refine r_get0 (kd24 rfl) (by decide) rfl g rfl ?_
  refine r_i2l (kd24 rfl) rfl ?_
  refine r_lload_n (kd24 rfl) rfl rfl ?_
  refine r_ladd (kd24 rfl) rfl ?_
  refine r_aload_n (kd24 rfl) rfl rfl ?_
  obtain ⟨g, h⟩ := h
  refine r_get0 (kd24 rfl) (by decide) rfl g rfl ?_
  refine r_i2l (kd24 rfl) rfl ?_
  refine r_lcmp (kd24 rfl) rfl ?_
  refine r_if_gt (kd24 rfl) rfl (fun c => ?_) (fun c => ?_)
  · have h := h.1 c
    refine r_iconst (kd24 rfl) (y := 0) (by decide) rfl ?_
    exact (b_Heap_hasRoom_21 hd h).less e_sn
  · have h := h.2 c
    refine r_iconst (kd24 rfl) (y := 1) (by decide) rfl ?_
    refine r_goto (kd24 rfl) ?_
    exact (b_Heap_hasRoom_21 hd h).less e_sn
/-- TierMill$Heap.numberOf(I)I -/
theorem kd25 {pc : Nat} {q : eI} (h : e_d25.lookup pc = some q) : e_dec 25 pc = some q := h
theorem L25 : (e_m 25).2.2.1 = 2 := rfl
theorem R25 : (e_m 25).2.2.2.1 = (some .int) := rfl
def w_Heap_numberOf (l0 : Nat) (l1 : Int32) (M : eM) (Q : Int32 → eM → Prop) : Prop := e_ob M l0 3 ∧ e_ai M (gr M l0 3) l1 ∧ Q (gi M (gr M l0 3) l1.toNatClampNeg) M
theorem b_Heap_numberOf {d : Nat} {l0 : Nat} {l1 : Int32} {M : eM} {Q : Int32 → eM → Prop} (hd : 0 ≤ d) (h : w_Heap_numberOf l0 l1 M Q) : e_CI 25 d 0 0 [.ref l0, .int l1] M Q := by
  unfold w_Heap_numberOf at h
  show e_E 25 d 0 0 0 [(0, .ref l0), (1, .int l1)] [] M (e_QI Q)
  refine r_aload_n (kd25 rfl) rfl rfl ?_
  obtain ⟨g, h⟩ := h
  refine r_get2 (kd25 rfl) (by decide) rfl g rfl ?_
  refine r_iload_n (kd25 rfl) rfl rfl ?_
  obtain ⟨g, h⟩ := h
  refine r_iaload (kd25 rfl) g rfl ?_
  exact r_ireturn (kd25 rfl) R25 h
/-- TierMill$Heap.tagOf(I)I -/
theorem kd26 {pc : Nat} {q : eI} (h : e_d26.lookup pc = some q) : e_dec 26 pc = some q := h
theorem L26 : (e_m 26).2.2.1 = 2 := rfl
theorem R26 : (e_m 26).2.2.2.1 = (some .int) := rfl
def w_Heap_tagOf (l0 : Nat) (l1 : Int32) (M : eM) (Q : Int32 → eM → Prop) : Prop := e_ob M l0 3 ∧ e_ai M (gr M l0 3) (l1 + 1) ∧ Q (gi M (gr M l0 3) (l1 + 1).toNatClampNeg) M
theorem b_Heap_tagOf {d : Nat} {l0 : Nat} {l1 : Int32} {M : eM} {Q : Int32 → eM → Prop} (hd : 0 ≤ d) (h : w_Heap_tagOf l0 l1 M Q) : e_CI 26 d 0 0 [.ref l0, .int l1] M Q := by
  unfold w_Heap_tagOf at h
  show e_E 26 d 0 0 0 [(0, .ref l0), (1, .int l1)] [] M (e_QI Q)
  refine r_aload_n (kd26 rfl) rfl rfl ?_
  obtain ⟨g, h⟩ := h
  refine r_get2 (kd26 rfl) (by decide) rfl g rfl ?_
  refine r_iload_n (kd26 rfl) rfl rfl ?_
  refine r_iconst (kd26 rfl) (y := 1) (by decide) rfl ?_
  refine r_iadd (kd26 rfl) rfl ?_
  obtain ⟨g, h⟩ := h
  refine r_iaload (kd26 rfl) g rfl ?_
  exact r_ireturn (kd26 rfl) R26 h
/-- TierMill$Heap.partsOf(LTierMill$Program;I)I -/
theorem kd27 {pc : Nat} {q : eI} (h : e_d27.lookup pc = some q) : e_dec 27 pc = some q := h
theorem L27 : (e_m 27).2.2.1 = 3 := rfl
theorem R27 : (e_m 27).2.2.2.1 = (some .int) := rfl
def w_Heap_partsOf_19 (s0 : Int32) (M : eM) (Q : Int32 → eM → Prop) : Prop := Q s0 M
theorem b_Heap_partsOf_19 {d : Nat} {s0 : Int32} {M : eM} {Q : Int32 → eM → Prop} (hd : 0 ≤ d) (h : w_Heap_partsOf_19 s0 M Q ) : e_E 27 d 0 0 19 [] [.int s0] M (e_QI Q) := by
  unfold w_Heap_partsOf_19 at h
  exact r_ireturn (kd27 rfl) R27 h
def w_Heap_partsOf (l0 : Nat) (l1 : Nat) (l2 : Int32) (M : eM) (Q : Int32 → eM → Prop) : Prop := (l2 < 16 → e_ob M l1 6 ∧ e_ai M (gr M l1 5) l2 ∧ w_Heap_partsOf_19 (gi M (gr M l1 5) l2.toNatClampNeg) M Q) ∧ (¬ l2 < 16 → w_Heap_partsOf_19 (l2 - 16) M Q)
theorem b_Heap_partsOf {d : Nat} {l0 : Nat} {l1 : Nat} {l2 : Int32} {M : eM} {Q : Int32 → eM → Prop} (hd : 0 ≤ d) (h : w_Heap_partsOf l0 l1 l2 M Q) : e_CI 27 d 0 0 [.ref l0, .ref l1, .int l2] M Q := by
  unfold w_Heap_partsOf at h
  show e_E 27 d 0 0 0 [(0, .ref l0), (1, .ref l1), (2, .int l2)] [] M (e_QI Q)
  refine r_iload_n (kd27 rfl) rfl rfl ?_
  refine r_bipush (kd27 rfl) (y := 16) (by decide) rfl ?_
  refine r_icmp_lt (kd27 rfl) rfl (fun c => ?_) (fun c => ?_)
  · have h := h.1 c
    refine r_aload_n (kd27 rfl) rfl rfl ?_
    obtain ⟨g, h⟩ := h
    refine r_get2 (kd27 rfl) (by decide) rfl g rfl ?_
    refine r_iload_n (kd27 rfl) rfl rfl ?_
    obtain ⟨g, h⟩ := h
    refine r_iaload (kd27 rfl) g rfl ?_
    exact (b_Heap_partsOf_19 hd h).less e_sn
  · have h := h.2 c
    refine r_iload_n (kd27 rfl) rfl rfl ?_
    refine r_bipush (kd27 rfl) (y := 16) (by decide) rfl ?_
    refine r_isub (kd27 rfl) rfl ?_
    refine r_goto (kd27 rfl) ?_
    exact (b_Heap_partsOf_19 hd h).less e_sn
/-- TierMill$Heap.partOf(II)I -/
theorem kd28 {pc : Nat} {q : eI} (h : e_d28.lookup pc = some q) : e_dec 28 pc = some q := h
theorem L28 : (e_m 28).2.2.1 = 3 := rfl
theorem R28 : (e_m 28).2.2.2.1 = (some .int) := rfl
def w_Heap_partOf (l0 : Nat) (l1 : Int32) (l2 : Int32) (M : eM) (Q : Int32 → eM → Prop) : Prop := e_ob M l0 3 ∧ e_ai M (gr M l0 3) ((l1 + 2) + l2) ∧ Q (gi M (gr M l0 3) ((l1 + 2) + l2).toNatClampNeg) M
theorem b_Heap_partOf {d : Nat} {l0 : Nat} {l1 : Int32} {l2 : Int32} {M : eM} {Q : Int32 → eM → Prop} (hd : 0 ≤ d) (h : w_Heap_partOf l0 l1 l2 M Q) : e_CI 28 d 0 0 [.ref l0, .int l1, .int l2] M Q := by
  unfold w_Heap_partOf at h
  show e_E 28 d 0 0 0 [(0, .ref l0), (1, .int l1), (2, .int l2)] [] M (e_QI Q)
  refine r_aload_n (kd28 rfl) rfl rfl ?_
  obtain ⟨g, h⟩ := h
  refine r_get2 (kd28 rfl) (by decide) rfl g rfl ?_
  refine r_iload_n (kd28 rfl) rfl rfl ?_
  refine r_iconst (kd28 rfl) (y := 2) (by decide) rfl ?_
  refine r_iadd (kd28 rfl) rfl ?_
  refine r_iload_n (kd28 rfl) rfl rfl ?_
  refine r_iadd (kd28 rfl) rfl ?_
  obtain ⟨g, h⟩ := h
  refine r_iaload (kd28 rfl) g rfl ?_
  exact r_ireturn (kd28 rfl) R28 h
/-- TierMill$Heap.setPart(III)V -/
theorem kd29 {pc : Nat} {q : eI} (h : e_d29.lookup pc = some q) : e_dec 29 pc = some q := h
theorem L29 : (e_m 29).2.2.1 = 4 := rfl
theorem R29 : (e_m 29).2.2.2.1 = none := rfl
def w_Heap_setPart (l0 : Nat) (l1 : Int32) (l2 : Int32) (l3 : Int32) (M : eM) (Q : eM → Prop) : Prop := e_ob M l0 3 ∧ e_ar M (gr M l0 3) 20 ((l1 + 2) + l2) ∧ ∀ M1 : eM, M1 = e_si M (gr M l0 3) ((l1 + 2) + l2).toNatClampNeg l3 → Q M1
theorem b_Heap_setPart {d : Nat} {l0 : Nat} {l1 : Int32} {l2 : Int32} {l3 : Int32} {M : eM} {Q : eM → Prop} (hd : 0 ≤ d) (h : w_Heap_setPart l0 l1 l2 l3 M Q) : e_CV 29 d 0 0 [.ref l0, .int l1, .int l2, .int l3] M Q := by
  unfold w_Heap_setPart at h
  show e_E 29 d 0 0 0 [(0, .ref l0), (1, .int l1), (2, .int l2), (3, .int l3)] [] M (e_QV Q)
  refine r_aload_n (kd29 rfl) rfl rfl ?_
  obtain ⟨g, h⟩ := h
  refine r_get2 (kd29 rfl) (by decide) rfl g rfl ?_
  refine r_iload_n (kd29 rfl) rfl rfl ?_
  refine r_iconst (kd29 rfl) (y := 2) (by decide) rfl ?_
  refine r_iadd (kd29 rfl) rfl ?_
  refine r_iload_n (kd29 rfl) rfl rfl ?_
  refine r_iadd (kd29 rfl) rfl ?_
  refine r_iload_n (kd29 rfl) rfl rfl ?_
  obtain ⟨g, h⟩ := h
  have h := h _ rfl
  refine r_iastore (kd29 rfl) g rfl ?_
  exact r_return (kd29 rfl) R29 h
/-- TierMill$Heap.make(II)I -/
theorem kd30 {pc : Nat} {q : eI} (h : e_d30.lookup pc = some q) : e_dec 30 pc = some q := h
theorem L30 : (e_m 30).2.2.1 = 4 := rfl
theorem R30 : (e_m 30).2.2.2.1 = (some .int) := rfl
def w_Heap_make (kc ks : Nat) (l0 : Nat) (l1 : Int32) (l2 : Int32) (M : eM) (Q : Int32 → eM → Prop) : Prop := e_ob M l0 3 ∧ e_ob M l0 3 ∧ e_ob M l0 3 ∧ ∀ M1 : eM, M1 = e_si M l0 2 ((gi M l0 2) + 1) → e_ob M1 l0 3 ∧ e_ob M1 l0 3 ∧ e_ar M1 (gr M1 l0 3) 20 ((gi M l0 1) + 1) ∧ ∀ M2 : eM, M2 = e_si M1 (gr M1 l0 3) ((gi M l0 1) + 1).toNatClampNeg (gi M1 l0 2) → e_ob M2 l0 3 ∧ e_ar M2 (gr M2 l0 3) 20 (((gi M l0 1) + 1) + 1) ∧ ∀ M3 : eM, M3 = e_si M2 (gr M2 l0 3) (((gi M l0 1) + 1) + 1).toNatClampNeg l1 → e_ob M3 l0 3 ∧ ∃ kc5 ks6 : Nat, kc5 ≤ kc ∧ ks6 ≤ ks ∧ w_Arr_fill_234 kc5 ks6 (gr M3 l0 3) (((gi M l0 1) + 1) + 2) ((((gi M l0 1) + 1) + 2) + l2) 0 M3 (fun (M4 : eM) => e_ob M4 l0 3 ∧ e_ob M4 l0 3 ∧ ∀ M7 : eM, M7 = e_si M4 l0 1 ((gi M4 l0 1) + (2 + l2)) → Q ((gi M l0 1) + 1) M7)
theorem b_Heap_make {d : Nat} {kc ks : Nat} {l0 : Nat} {l1 : Int32} {l2 : Int32} {M : eM} {Q : Int32 → eM → Prop} (hd : 2 ≤ d) (h : w_Heap_make kc ks l0 l1 l2 M Q) : e_CI 30 d kc ks [.ref l0, .int l1, .int l2] M Q := by
  unfold w_Heap_make at h
  show e_E 30 d kc ks 0 [(0, .ref l0), (1, .int l1), (2, .int l2)] [] M (e_QI Q)
  refine r_aload_n (kd30 rfl) rfl rfl ?_
  obtain ⟨g, h⟩ := h
  refine r_get0 (kd30 rfl) (by decide) rfl g rfl ?_
  refine r_iconst (kd30 rfl) (y := 1) (by decide) rfl ?_
  refine r_iadd (kd30 rfl) rfl ?_
  refine r_istore_n (kd30 rfl) L30 (by decide) rfl rfl ?_
  refine r_aload_n (kd30 rfl) rfl rfl ?_
  refine r_dup (kd30 rfl) rfl rfl ?_
  obtain ⟨g, h⟩ := h
  refine r_get0 (kd30 rfl) (by decide) rfl g rfl ?_
  refine r_iconst (kd30 rfl) (y := 1) (by decide) rfl ?_
  refine r_iadd (kd30 rfl) rfl ?_
  obtain ⟨g, h⟩ := h
  have h := h _ rfl
  refine r_put0 (kd30 rfl) (by decide) rfl g rfl ?_
  refine r_aload_n (kd30 rfl) rfl rfl ?_
  obtain ⟨g, h⟩ := h
  refine r_get2 (kd30 rfl) (by decide) rfl g rfl ?_
  refine r_iload_n (kd30 rfl) rfl rfl ?_
  refine r_aload_n (kd30 rfl) rfl rfl ?_
  obtain ⟨g, h⟩ := h
  refine r_get0 (kd30 rfl) (by decide) rfl g rfl ?_
  obtain ⟨g, h⟩ := h
  have h := h _ rfl
  refine r_iastore (kd30 rfl) g rfl ?_
  refine r_aload_n (kd30 rfl) rfl rfl ?_
  obtain ⟨g, h⟩ := h
  refine r_get2 (kd30 rfl) (by decide) rfl g rfl ?_
  refine r_iload_n (kd30 rfl) rfl rfl ?_
  refine r_iconst (kd30 rfl) (y := 1) (by decide) rfl ?_
  refine r_iadd (kd30 rfl) rfl ?_
  refine r_iload_n (kd30 rfl) rfl rfl ?_
  obtain ⟨g, h⟩ := h
  have h := h _ rfl
  refine r_iastore (kd30 rfl) g rfl ?_
  refine r_aload_n (kd30 rfl) rfl rfl ?_
  obtain ⟨g, h⟩ := h
  refine r_get2 (kd30 rfl) (by decide) rfl g rfl ?_
  refine r_iload_n (kd30 rfl) rfl rfl ?_
  refine r_iconst (kd30 rfl) (y := 2) (by decide) rfl ?_
  refine r_iadd (kd30 rfl) rfl ?_
  refine r_iload_n (kd30 rfl) rfl rfl ?_
  refine r_iconst (kd30 rfl) (y := 2) (by decide) rfl ?_
  refine r_iadd (kd30 rfl) rfl ?_
  refine r_iload_n (kd30 rfl) rfl rfl ?_
  refine r_iadd (kd30 rfl) rfl ?_
  refine r_iconst (kd30 rfl) (y := 0) (by decide) rfl ?_
  obtain ⟨mc, ms, q1, q2, h⟩ := h
  refine r_callSV (d' := d - 1) (by omega) (kd30 rfl) (by decide) rfl rfl rfl rfl (Nat.le_of_ble_eq_true rfl) rfl L234 (Nat.le_of_ble_eq_true rfl) (Nat.le_of_ble_eq_true rfl) q1 q2 rfl rfl rfl (b_Arr_fill_234 (by omega) h) (fun M1 h => ?_)
  refine r_aload_n (kd30 rfl) rfl rfl ?_
  refine r_dup (kd30 rfl) rfl rfl ?_
  obtain ⟨g, h⟩ := h
  refine r_get0 (kd30 rfl) (by decide) rfl g rfl ?_
  refine r_iconst (kd30 rfl) (y := 2) (by decide) rfl ?_
  refine r_iload_n (kd30 rfl) rfl rfl ?_
  refine r_iadd (kd30 rfl) rfl ?_
  refine r_iadd (kd30 rfl) rfl ?_
  obtain ⟨g, h⟩ := h
  have h := h _ rfl
  refine r_put0 (kd30 rfl) (by decide) rfl g rfl ?_
  refine r_iload_n (kd30 rfl) rfl rfl ?_
  exact r_ireturn (kd30 rfl) R30 h
/-- TierMill$Heap.broughtOver(LTierMill$Program;I)I -/
theorem kd34 {pc : Nat} {q : eI} (h : e_d34.lookup pc = some q) : e_dec 34 pc = some q := h
theorem L34 : (e_m 34).2.2.1 = 5 := rfl
theorem R34 : (e_m 34).2.2.2.1 = (some .int) := rfl
def w_Heap_broughtOver (l0 : Nat) (l1 : Nat) (l2 : Int32) (M : eM) (Q : Int32 → eM → Prop) : Prop := (¬ l2 = 0 → e_ob M l0 3 ∧ e_ai M (gr M l0 4) l2 ∧ (0 ≤ (gi M (gr M l0 4) l2.toNatClampNeg) → e_ob M l0 3 ∧ e_ob M l0 3 ∧ e_ai M (gr M l0 4) (l2 + 1) ∧ e_ob M l0 3 ∧ w_Heap_partsOf l0 l1 (gi M (gr M l0 4) (l2 + 1).toNatClampNeg) M (fun (v2 : Int32) (M1 : eM) => e_ob M1 l0 3 ∧ e_ob M1 l0 3 ∧ e_cg M1 (gr M1 l0 4) l2 (gr M1 l0 3) ((gi M l0 1) + 1) (2 + v2) ∧ ∀ M3 : eM, M3 = e_cpy M1 (gr M1 l0 4) l2 (gr M1 l0 3) ((gi M l0 1) + 1) (2 + v2) → e_ob M3 l0 3 ∧ e_ar M3 (gr M3 l0 4) 20 l2 ∧ ∀ M4 : eM, M4 = e_si M3 (gr M3 l0 4) l2.toNatClampNeg (-((gi M l0 1) + 1)) → e_ob M4 l0 3 ∧ e_ob M4 l0 3 ∧ ∀ M5 : eM, M5 = e_si M4 l0 1 ((gi M4 l0 1) + (2 + v2)) → Q ((gi M l0 1) + 1) M5)) ∧ (¬ 0 ≤ (gi M (gr M l0 4) l2.toNatClampNeg) → e_ob M l0 3 ∧ e_ai M (gr M l0 4) l2 ∧ Q (-(gi M (gr M l0 4) l2.toNatClampNeg)) M)) ∧ (l2 = 0 → Q (0 : Int32) M)
theorem b_Heap_broughtOver {d : Nat} {l0 : Nat} {l1 : Nat} {l2 : Int32} {M : eM} {Q : Int32 → eM → Prop} (hd : 1 ≤ d) (h : w_Heap_broughtOver l0 l1 l2 M Q) : e_CI 34 d 0 0 [.ref l0, .ref l1, .int l2] M Q := by
  unfold w_Heap_broughtOver at h
  show e_E 34 d 0 0 0 [(0, .ref l0), (1, .ref l1), (2, .int l2)] [] M (e_QI Q)
  refine r_iload_n (kd34 rfl) rfl rfl ?_
  refine r_if_ne (kd34 rfl) rfl (fun c => ?_) (fun c => ?_)
  · have h := h.1 c
    refine r_aload_n (kd34 rfl) rfl rfl ?_
    obtain ⟨g, h⟩ := h
    refine r_get2 (kd34 rfl) (by decide) rfl g rfl ?_
    refine r_iload_n (kd34 rfl) rfl rfl ?_
    obtain ⟨g, h⟩ := h
    refine r_iaload (kd34 rfl) g rfl ?_
    refine r_if_ge (kd34 rfl) rfl (fun c => ?_) (fun c => ?_)
    · have h := h.1 c
      refine r_aload_n (kd34 rfl) rfl rfl ?_
      obtain ⟨g, h⟩ := h
      refine r_get0 (kd34 rfl) (by decide) rfl g rfl ?_
      refine r_iconst (kd34 rfl) (y := 1) (by decide) rfl ?_
      refine r_iadd (kd34 rfl) rfl ?_
      refine r_istore_n (kd34 rfl) L34 (by decide) rfl rfl ?_
      refine r_iconst (kd34 rfl) (y := 2) (by decide) rfl ?_
      refine r_aload_n (kd34 rfl) rfl rfl ?_
      refine r_aload_n (kd34 rfl) rfl rfl ?_
      refine r_aload_n (kd34 rfl) rfl rfl ?_
      obtain ⟨g, h⟩ := h
      refine r_get2 (kd34 rfl) (by decide) rfl g rfl ?_
      refine r_iload_n (kd34 rfl) rfl rfl ?_
      refine r_iconst (kd34 rfl) (y := 1) (by decide) rfl ?_
      refine r_iadd (kd34 rfl) rfl ?_
      obtain ⟨g, h⟩ := h
      refine r_iaload (kd34 rfl) g rfl ?_
      obtain ⟨g, h⟩ := h
      refine r_callVI (d' := d - 1) (by omega) (kd34 rfl) (by decide) rfl rfl rfl rfl (Nat.le_of_ble_eq_true rfl) rfl L27 (Nat.le_of_ble_eq_true rfl) (Nat.le_of_ble_eq_true rfl) g (Nat.zero_le _) (Nat.zero_le _) rfl rfl rfl (b_Heap_partsOf (by omega) h) (fun x1 M1 h => ?_)
      refine r_iadd (kd34 rfl) rfl ?_
      refine r_istore (kd34 rfl) L34 (by decide) rfl rfl ?_
      refine r_aload_n (kd34 rfl) rfl rfl ?_
      obtain ⟨g, h⟩ := h
      refine r_get2 (kd34 rfl) (by decide) rfl g rfl ?_
      refine r_iload_n (kd34 rfl) rfl rfl ?_
      refine r_aload_n (kd34 rfl) rfl rfl ?_
      obtain ⟨g, h⟩ := h
      refine r_get2 (kd34 rfl) (by decide) rfl g rfl ?_
      refine r_iload_n (kd34 rfl) rfl rfl ?_
      refine r_iload (kd34 rfl) rfl rfl ?_
      obtain ⟨g, h⟩ := h
      have h := h _ rfl
      refine r_arraycopy (kd34 rfl) g (Nat.le_of_ble_eq_true rfl) rfl ?_
      refine r_aload_n (kd34 rfl) rfl rfl ?_
      obtain ⟨g, h⟩ := h
      refine r_get2 (kd34 rfl) (by decide) rfl g rfl ?_
      refine r_iload_n (kd34 rfl) rfl rfl ?_
      refine r_iload_n (kd34 rfl) rfl rfl ?_
      refine r_ineg (kd34 rfl) rfl ?_
      obtain ⟨g, h⟩ := h
      have h := h _ rfl
      refine r_iastore (kd34 rfl) g rfl ?_
      refine r_aload_n (kd34 rfl) rfl rfl ?_
      refine r_dup (kd34 rfl) rfl rfl ?_
      obtain ⟨g, h⟩ := h
      refine r_get0 (kd34 rfl) (by decide) rfl g rfl ?_
      refine r_iload (kd34 rfl) rfl rfl ?_
      refine r_iadd (kd34 rfl) rfl ?_
      obtain ⟨g, h⟩ := h
      have h := h _ rfl
      refine r_put0 (kd34 rfl) (by decide) rfl g rfl ?_
      refine r_iload_n (kd34 rfl) rfl rfl ?_
      exact r_ireturn (kd34 rfl) R34 h
    · have h := h.2 c
      refine r_aload_n (kd34 rfl) rfl rfl ?_
      obtain ⟨g, h⟩ := h
      refine r_get2 (kd34 rfl) (by decide) rfl g rfl ?_
      refine r_iload_n (kd34 rfl) rfl rfl ?_
      obtain ⟨g, h⟩ := h
      refine r_iaload (kd34 rfl) g rfl ?_
      refine r_ineg (kd34 rfl) rfl ?_
      exact r_ireturn (kd34 rfl) R34 h
  · have h := h.2 c
    refine r_iconst (kd34 rfl) (y := 0) (by decide) rfl ?_
    exact r_ireturn (kd34 rfl) R34 h
/-- TierMill$Program.isReference(I)Z -/
theorem kd70 {pc : Nat} {q : eI} (h : e_d70.lookup pc = some q) : e_dec 70 pc = some q := h
theorem L70 : (e_m 70).2.2.1 = 1 := rfl
theorem R70 : (e_m 70).2.2.2.1 = (some .boolean) := rfl
def w_Program_isReference_16 (s0 : Int32) (M : eM) (Q : Int32 → eM → Prop) : Prop := (s0 = 0 ∨ s0 = 1) ∧ Q s0 M
theorem b_Program_isReference_16 {d : Nat} {s0 : Int32} {M : eM} {Q : Int32 → eM → Prop} (hd : 0 ≤ d) (h : w_Program_isReference_16 s0 M Q ) : e_E 70 d 0 0 16 [] [.int s0] M (e_QI Q) := by
  unfold w_Program_isReference_16 at h
  exact r_zreturn (kd70 rfl) R70 h.1 h.2
def w_Program_isReference_11 (M : eM) (Q : Int32 → eM → Prop) : Prop := w_Program_isReference_16 1 M Q
theorem b_Program_isReference_11 {d : Nat} {M : eM} {Q : Int32 → eM → Prop} (hd : 0 ≤ d) (h : w_Program_isReference_11 M Q ) : e_E 70 d 0 0 11 [] [] M (e_QI Q) := by
  unfold w_Program_isReference_11 at h
  refine r_iconst (kd70 rfl) (y := 1) (by decide) rfl ?_
  refine r_goto (kd70 rfl) ?_
  exact (b_Program_isReference_16 hd h).less e_sn
def w_Program_isReference (l0 : Int32) (M : eM) (Q : Int32 → eM → Prop) : Prop := (l0 = 2 → w_Program_isReference_11 M Q) ∧ (¬ l0 = 2 → (l0 < 15 → w_Program_isReference_16 0 M Q) ∧ (¬ l0 < 15 → w_Program_isReference_11 M Q))
theorem b_Program_isReference {d : Nat} {l0 : Int32} {M : eM} {Q : Int32 → eM → Prop} (hd : 0 ≤ d) (h : w_Program_isReference l0 M Q) : e_CI 70 d 0 0 [.int l0] M Q := by
  unfold w_Program_isReference at h
  show e_E 70 d 0 0 0 [(0, .int l0)] [] M (e_QI Q)
  refine r_iload_n (kd70 rfl) rfl rfl ?_
  refine r_iconst (kd70 rfl) (y := 2) (by decide) rfl ?_
  refine r_icmp_eq (kd70 rfl) rfl (fun c => ?_) (fun c => ?_)
  · have h := h.1 c
    exact (b_Program_isReference_11 hd h).less e_sn
  · have h := h.2 c
    refine r_iload_n (kd70 rfl) rfl rfl ?_
    refine r_bipush (kd70 rfl) (y := 15) (by decide) rfl ?_
    refine r_icmp_lt (kd70 rfl) rfl (fun c => ?_) (fun c => ?_)
    · have h := h.1 c
      refine r_iconst (kd70 rfl) (y := 0) (by decide) rfl ?_
      exact (b_Program_isReference_16 hd h).less e_sn
    · have h := h.2 c
      exact (b_Program_isReference_11 hd h).less e_sn
/-- TierMill$Heap.bringSlots(LTierMill$Program;[IJII)V -/
theorem kd32 {pc : Nat} {q : eI} (h : e_d32.lookup pc = some q) : e_dec 32 pc = some q := h
theorem L32 : (e_m 32).2.2.1 = 8 := rfl
theorem R32 : (e_m 32).2.2.2.1 = none := rfl
def w_Heap_bringSlots_52 (l0 : Nat) (l1 : Nat) (l2 : Nat) (l3 : Int64) (l5 : Int32) (l6 : Int32) (l7 : Int32) (M : eM) (Q : eM → Prop) (k14 : Nat → Nat → Nat → Int64 → Int32 → Int32 → Int32 → eM → Prop) : Prop := k14 l0 l1 l2 l3 l5 l6 (l7 + 1) M
theorem b_Heap_bringSlots_52 {d : Nat} {l0 : Nat} {l1 : Nat} {l2 : Nat} {l3 : Int64} {l5 : Int32} {l6 : Int32} {l7 : Int32} {M : eM} {Q : eM → Prop} {k14 : Nat → Nat → Nat → Int64 → Int32 → Int32 → Int32 → eM → Prop} (hd : 2 ≤ d) (hk14 : ∀ (l0 : Nat) (l1 : Nat) (l2 : Nat) (l3 : Int64) (l5 : Int32) (l6 : Int32) (l7 : Int32) (M : eM), k14 l0 l1 l2 l3 l5 l6 l7 M → e_E 32 d 0 0 14 [(0, .ref l0), (1, .ref l1), (2, .ref l2), (3, .long l3), (5, .int l5), (6, .int l6), (7, .int l7)] [] M (e_QV Q)) (h : w_Heap_bringSlots_52 l0 l1 l2 l3 l5 l6 l7 M Q k14) : e_E 32 d 0 0 52 [(0, .ref l0), (1, .ref l1), (2, .ref l2), (3, .long l3), (5, .int l5), (6, .int l6), (7, .int l7)] [] M (e_QV Q) := by
  unfold w_Heap_bringSlots_52 at h
  refine r_iinc (kd32 rfl) rfl (y := 1) (by decide) L32 (by decide) rfl rfl ?_
  refine r_goto (kd32 rfl) ?_
  exact (hk14 _ _ _ _ _ _ _ _ h).less (e_sc (List.mem_of_getElem? (i := 1) rfl) (e_sc (List.mem_of_getElem? (i := 2) rfl) (e_sc (List.mem_of_getElem? (i := 3) rfl) (e_sc (List.mem_of_getElem? (i := 4) rfl) (e_sc (List.mem_of_getElem? (i := 5) rfl) (e_sc (List.mem_of_getElem? (i := 6) rfl) (e_sc (List.mem_of_getElem? (i := 0) rfl) e_sn)))))))
def w_Heap_bringSlots_14 : Nat → Nat → Nat → Nat → Int64 → Int32 → Int32 → Int32 → eM → (eM → Prop) → Prop
  | 0, _, _, _, _, _, _, _, _, _ => False
  | n + 1, l0, l1, l2, l3, l5, l6, l7, M, Q => (l6 ≤ l7 → Q M) ∧ (¬ l6 ≤ l7 → w_Program_kindIn l3 l7 M (fun (v3 : Int32) (M2 : eM) => w_Program_isReference v3 M2 (fun (v5 : Int32) (M4 : eM) => (v5 = 0 → w_Heap_bringSlots_52 l0 l1 l2 l3 l5 l6 l7 M4 Q (fun l0 l1 l2 l3 l5 l6 l7 M => w_Heap_bringSlots_14 n l0 l1 l2 l3 l5 l6 l7 M Q )) ∧ (¬ v5 = 0 → e_ai M4 l2 (l5 + l7) ∧ e_ob M4 l0 3 ∧ w_Heap_broughtOver l0 l1 (gi M4 l2 (l5 + l7).toNatClampNeg) M4 (fun (v7 : Int32) (M6 : eM) => e_ar M6 l2 20 (l5 + l7) ∧ ∀ M8 : eM, M8 = e_si M6 l2 (l5 + l7).toNatClampNeg v7 → w_Heap_bringSlots_52 l0 l1 l2 l3 l5 l6 l7 M8 Q (fun l0 l1 l2 l3 l5 l6 l7 M => w_Heap_bringSlots_14 n l0 l1 l2 l3 l5 l6 l7 M Q ))))))
theorem b_Heap_bringSlots_14 {d : Nat} {Q : eM → Prop} (hd : 2 ≤ d) (n : Nat) : ∀ (l0 : Nat) (l1 : Nat) (l2 : Nat) (l3 : Int64) (l5 : Int32) (l6 : Int32) (l7 : Int32) (M : eM), w_Heap_bringSlots_14 n l0 l1 l2 l3 l5 l6 l7 M Q → e_E 32 d 0 0 14 [(0, .ref l0), (1, .ref l1), (2, .ref l2), (3, .long l3), (5, .int l5), (6, .int l6), (7, .int l7)] [] M (e_QV Q) := by
  induction n with
  | zero => intro l0 l1 l2 l3 l5 l6 l7 M h; exact False.elim h
  | succ n ih =>
    intro l0 l1 l2 l3 l5 l6 l7 M h
    have hk14 := ih
    refine r_iload (kd32 rfl) rfl rfl ?_
    refine r_iload (kd32 rfl) rfl rfl ?_
    refine r_icmp_ge (kd32 rfl) rfl (fun c => ?_) (fun c => ?_)
    · have h := h.1 c
      exact r_return (kd32 rfl) R32 h
    · have h := h.2 c
      refine r_lload_n (kd32 rfl) rfl rfl ?_
      refine r_iload (kd32 rfl) rfl rfl ?_
      refine r_callSI (d' := d - 1) (by omega) (kd32 rfl) (by decide) rfl rfl rfl rfl (Nat.le_of_ble_eq_true rfl) rfl L69 (Nat.le_of_ble_eq_true rfl) (Nat.le_of_ble_eq_true rfl) (Nat.zero_le _) (Nat.zero_le _) rfl rfl rfl (b_Program_kindIn (by omega) h) (fun x1 M1 h => ?_)
      refine r_callSI (d' := d - 1) (by omega) (kd32 rfl) (by decide) rfl rfl rfl rfl (Nat.le_of_ble_eq_true rfl) rfl L70 (Nat.le_of_ble_eq_true rfl) (Nat.le_of_ble_eq_true rfl) (Nat.zero_le _) (Nat.zero_le _) rfl rfl rfl (b_Program_isReference (by omega) h) (fun x1 M1 h => ?_)
      refine r_if_eq (kd32 rfl) rfl (fun c => ?_) (fun c => ?_)
      · have h := h.1 c
        exact (b_Heap_bringSlots_52 hd hk14 h).less (e_sc (List.mem_of_getElem? (i := 0) rfl) (e_sc (List.mem_of_getElem? (i := 1) rfl) (e_sc (List.mem_of_getElem? (i := 2) rfl) (e_sc (List.mem_of_getElem? (i := 3) rfl) (e_sc (List.mem_of_getElem? (i := 4) rfl) (e_sc (List.mem_of_getElem? (i := 5) rfl) (e_sc (List.mem_of_getElem? (i := 6) rfl) e_sn)))))))
      · have h := h.2 c
        refine r_aload_n (kd32 rfl) rfl rfl ?_
        refine r_iload (kd32 rfl) rfl rfl ?_
        refine r_iload (kd32 rfl) rfl rfl ?_
        refine r_iadd (kd32 rfl) rfl ?_
        refine r_aload_n (kd32 rfl) rfl rfl ?_
        refine r_aload_n (kd32 rfl) rfl rfl ?_
        refine r_aload_n (kd32 rfl) rfl rfl ?_
        refine r_iload (kd32 rfl) rfl rfl ?_
        refine r_iload (kd32 rfl) rfl rfl ?_
        refine r_iadd (kd32 rfl) rfl ?_
        obtain ⟨g, h⟩ := h
        refine r_iaload (kd32 rfl) g rfl ?_
        obtain ⟨g, h⟩ := h
        refine r_callVI (d' := d - 1) (by omega) (kd32 rfl) (by decide) rfl rfl rfl rfl (Nat.le_of_ble_eq_true rfl) rfl L34 (Nat.le_of_ble_eq_true rfl) (Nat.le_of_ble_eq_true rfl) g (Nat.zero_le _) (Nat.zero_le _) rfl rfl rfl (b_Heap_broughtOver (by omega) h) (fun x1 M1 h => ?_)
        obtain ⟨g, h⟩ := h
        have h := h _ rfl
        refine r_iastore (kd32 rfl) g rfl ?_
        exact (b_Heap_bringSlots_52 hd hk14 h).less (e_sc (List.mem_of_getElem? (i := 0) rfl) (e_sc (List.mem_of_getElem? (i := 1) rfl) (e_sc (List.mem_of_getElem? (i := 2) rfl) (e_sc (List.mem_of_getElem? (i := 3) rfl) (e_sc (List.mem_of_getElem? (i := 4) rfl) (e_sc (List.mem_of_getElem? (i := 5) rfl) (e_sc (List.mem_of_getElem? (i := 6) rfl) e_sn)))))))
def w_Heap_bringSlots (l0 : Nat) (l1 : Nat) (l2 : Nat) (l3 : Int64) (l5 : Int32) (l6 : Int32) (M : eM) (Q : eM → Prop) : Prop := (¬ (lg_cmp (l3 &&& (-72340172838076674)) 0) = 0 → ∃ n1 : Nat, w_Heap_bringSlots_14 n1 l0 l1 l2 l3 l5 l6 0 M Q) ∧ ((lg_cmp (l3 &&& (-72340172838076674)) 0) = 0 → Q M)
theorem b_Heap_bringSlots {d : Nat} {l0 : Nat} {l1 : Nat} {l2 : Nat} {l3 : Int64} {l5 : Int32} {l6 : Int32} {M : eM} {Q : eM → Prop} (hd : 2 ≤ d) (h : w_Heap_bringSlots l0 l1 l2 l3 l5 l6 M Q) : e_CV 32 d 0 0 [.ref l0, .ref l1, .ref l2, .long l3, .int l5, .int l6] M Q := by
  unfold w_Heap_bringSlots at h
  show e_E 32 d 0 0 0 [(0, .ref l0), (1, .ref l1), (2, .ref l2), (3, .long l3), (5, .int l5), (6, .int l6)] [] M (e_QV Q)
  refine r_lload_n (kd32 rfl) rfl rfl ?_
  refine r_ldc2_w (kd32 rfl) (y := (-72340172838076674)) (by decide) rfl ?_
  refine r_land (kd32 rfl) rfl ?_
  refine r_lconst (kd32 rfl) (y := 0) (by decide) rfl ?_
  refine r_lcmp (kd32 rfl) rfl ?_
  refine r_if_ne (kd32 rfl) rfl (fun c => ?_) (fun c => ?_)
  · have h := h.1 c
    refine r_iconst (kd32 rfl) (y := 0) (by decide) rfl ?_
    refine r_istore (kd32 rfl) L32 (by decide) rfl rfl ?_
    obtain ⟨n, h⟩ := h
    exact (b_Heap_bringSlots_14 hd n _ _ _ _ _ _ _ _ h).less (e_sc (List.mem_of_getElem? (i := 1) rfl) (e_sc (List.mem_of_getElem? (i := 2) rfl) (e_sc (List.mem_of_getElem? (i := 3) rfl) (e_sc (List.mem_of_getElem? (i := 4) rfl) (e_sc (List.mem_of_getElem? (i := 5) rfl) (e_sc (List.mem_of_getElem? (i := 6) rfl) (e_sc (List.mem_of_getElem? (i := 0) rfl) e_sn)))))))
  · have h := h.2 c
    exact r_return (kd32 rfl) R32 h
/-- TierMill$Heap.bringFields(LTierMill$Program;II)V -/
theorem kd33 {pc : Nat} {q : eI} (h : e_d33.lookup pc = some q) : e_dec 33 pc = some q := h
theorem L33 : (e_m 33).2.2.1 = 5 := rfl
theorem R33 : (e_m 33).2.2.2.1 = none := rfl
def w_Heap_bringFields_57 (l0 : Nat) (l1 : Nat) (l2 : Int32) (l3 : Int32) (l4 : Int32) (M : eM) (Q : eM → Prop) (k3 : Nat → Nat → Int32 → Int32 → Int32 → eM → Prop) : Prop := k3 l0 l1 l2 l3 (l4 + 1) M
theorem b_Heap_bringFields_57 {d : Nat} {l0 : Nat} {l1 : Nat} {l2 : Int32} {l3 : Int32} {l4 : Int32} {M : eM} {Q : eM → Prop} {k3 : Nat → Nat → Int32 → Int32 → Int32 → eM → Prop} (hd : 2 ≤ d) (hk3 : ∀ (l0 : Nat) (l1 : Nat) (l2 : Int32) (l3 : Int32) (l4 : Int32) (M : eM), k3 l0 l1 l2 l3 l4 M → e_E 33 d 0 0 3 [(0, .ref l0), (1, .ref l1), (2, .int l2), (3, .int l3), (4, .int l4)] [] M (e_QV Q)) (h : w_Heap_bringFields_57 l0 l1 l2 l3 l4 M Q k3) : e_E 33 d 0 0 57 [(0, .ref l0), (1, .ref l1), (2, .int l2), (3, .int l3), (4, .int l4)] [] M (e_QV Q) := by
  unfold w_Heap_bringFields_57 at h
  refine r_iinc (kd33 rfl) rfl (y := 1) (by decide) L33 (by decide) rfl rfl ?_
  refine r_goto (kd33 rfl) ?_
  exact (hk3 _ _ _ _ _ _ h).less (e_sc (List.mem_of_getElem? (i := 1) rfl) (e_sc (List.mem_of_getElem? (i := 2) rfl) (e_sc (List.mem_of_getElem? (i := 3) rfl) (e_sc (List.mem_of_getElem? (i := 4) rfl) (e_sc (List.mem_of_getElem? (i := 0) rfl) e_sn)))))
def w_Heap_bringFields_3 : Nat → Nat → Nat → Int32 → Int32 → Int32 → eM → (eM → Prop) → Prop
  | 0, _, _, _, _, _, _, _ => False
  | n + 1, l0, l1, l2, l3, l4, M, Q => e_ob M l1 6 ∧ e_ai M (gr M l1 5) l3 ∧ ((gi M (gr M l1 5) l3.toNatClampNeg) ≤ l4 → Q M) ∧ (¬ (gi M (gr M l1 5) l3.toNatClampNeg) ≤ l4 → e_ob M l1 6 ∧ e_ai M (gr M l1 6) ((l3 * 8) + l4) ∧ ((gi M (gr M l1 6) ((l3 * 8) + l4).toNatClampNeg) = 1 → w_Heap_bringFields_57 l0 l1 l2 l3 l4 M Q (fun l0 l1 l2 l3 l4 M => w_Heap_bringFields_3 n l0 l1 l2 l3 l4 M Q )) ∧ (¬ (gi M (gr M l1 6) ((l3 * 8) + l4).toNatClampNeg) = 1 → e_ob M l0 3 ∧ e_ob M l0 3 ∧ e_ai M (gr M l0 3) ((l2 + 2) + l4) ∧ e_ob M l0 3 ∧ w_Heap_broughtOver l0 l1 (gi M (gr M l0 3) ((l2 + 2) + l4).toNatClampNeg) M (fun (v3 : Int32) (M2 : eM) => e_ar M2 (gr M l0 3) 20 ((l2 + 2) + l4) ∧ ∀ M4 : eM, M4 = e_si M2 (gr M l0 3) ((l2 + 2) + l4).toNatClampNeg v3 → w_Heap_bringFields_57 l0 l1 l2 l3 l4 M4 Q (fun l0 l1 l2 l3 l4 M => w_Heap_bringFields_3 n l0 l1 l2 l3 l4 M Q ))))
theorem b_Heap_bringFields_3 {d : Nat} {Q : eM → Prop} (hd : 2 ≤ d) (n : Nat) : ∀ (l0 : Nat) (l1 : Nat) (l2 : Int32) (l3 : Int32) (l4 : Int32) (M : eM), w_Heap_bringFields_3 n l0 l1 l2 l3 l4 M Q → e_E 33 d 0 0 3 [(0, .ref l0), (1, .ref l1), (2, .int l2), (3, .int l3), (4, .int l4)] [] M (e_QV Q) := by
  induction n with
  | zero => intro l0 l1 l2 l3 l4 M h; exact False.elim h
  | succ n ih =>
    intro l0 l1 l2 l3 l4 M h
    have hk3 := ih
    refine r_iload (kd33 rfl) rfl rfl ?_
    refine r_aload_n (kd33 rfl) rfl rfl ?_
    obtain ⟨g, h⟩ := h
    refine r_get2 (kd33 rfl) (by decide) rfl g rfl ?_
    refine r_iload_n (kd33 rfl) rfl rfl ?_
    obtain ⟨g, h⟩ := h
    refine r_iaload (kd33 rfl) g rfl ?_
    refine r_icmp_ge (kd33 rfl) rfl (fun c => ?_) (fun c => ?_)
    · have h := h.1 c
      exact r_return (kd33 rfl) R33 h
    · have h := h.2 c
      refine r_aload_n (kd33 rfl) rfl rfl ?_
      obtain ⟨g, h⟩ := h
      refine r_get2 (kd33 rfl) (by decide) rfl g rfl ?_
      refine r_iload_n (kd33 rfl) rfl rfl ?_
      refine r_bipush (kd33 rfl) (y := 8) (by decide) rfl ?_
      refine r_imul (kd33 rfl) rfl ?_
      refine r_iload (kd33 rfl) rfl rfl ?_
      refine r_iadd (kd33 rfl) rfl ?_
      obtain ⟨g, h⟩ := h
      refine r_iaload (kd33 rfl) g rfl ?_
      refine r_iconst (kd33 rfl) (y := 1) (by decide) rfl ?_
      refine r_icmp_eq (kd33 rfl) rfl (fun c => ?_) (fun c => ?_)
      · have h := h.1 c
        exact (b_Heap_bringFields_57 hd hk3 h).less (e_sc (List.mem_of_getElem? (i := 0) rfl) (e_sc (List.mem_of_getElem? (i := 1) rfl) (e_sc (List.mem_of_getElem? (i := 2) rfl) (e_sc (List.mem_of_getElem? (i := 3) rfl) (e_sc (List.mem_of_getElem? (i := 4) rfl) e_sn)))))
      · have h := h.2 c
        refine r_aload_n (kd33 rfl) rfl rfl ?_
        obtain ⟨g, h⟩ := h
        refine r_get2 (kd33 rfl) (by decide) rfl g rfl ?_
        refine r_iload_n (kd33 rfl) rfl rfl ?_
        refine r_iconst (kd33 rfl) (y := 2) (by decide) rfl ?_
        refine r_iadd (kd33 rfl) rfl ?_
        refine r_iload (kd33 rfl) rfl rfl ?_
        refine r_iadd (kd33 rfl) rfl ?_
        refine r_aload_n (kd33 rfl) rfl rfl ?_
        refine r_aload_n (kd33 rfl) rfl rfl ?_
        refine r_aload_n (kd33 rfl) rfl rfl ?_
        obtain ⟨g, h⟩ := h
        refine r_get2 (kd33 rfl) (by decide) rfl g rfl ?_
        refine r_iload_n (kd33 rfl) rfl rfl ?_
        refine r_iconst (kd33 rfl) (y := 2) (by decide) rfl ?_
        refine r_iadd (kd33 rfl) rfl ?_
        refine r_iload (kd33 rfl) rfl rfl ?_
        refine r_iadd (kd33 rfl) rfl ?_
        obtain ⟨g, h⟩ := h
        refine r_iaload (kd33 rfl) g rfl ?_
        obtain ⟨g, h⟩ := h
        refine r_callVI (d' := d - 1) (by omega) (kd33 rfl) (by decide) rfl rfl rfl rfl (Nat.le_of_ble_eq_true rfl) rfl L34 (Nat.le_of_ble_eq_true rfl) (Nat.le_of_ble_eq_true rfl) g (Nat.zero_le _) (Nat.zero_le _) rfl rfl rfl (b_Heap_broughtOver (by omega) h) (fun x1 M1 h => ?_)
        obtain ⟨g, h⟩ := h
        have h := h _ rfl
        refine r_iastore (kd33 rfl) g rfl ?_
        exact (b_Heap_bringFields_57 hd hk3 h).less (e_sc (List.mem_of_getElem? (i := 0) rfl) (e_sc (List.mem_of_getElem? (i := 1) rfl) (e_sc (List.mem_of_getElem? (i := 2) rfl) (e_sc (List.mem_of_getElem? (i := 3) rfl) (e_sc (List.mem_of_getElem? (i := 4) rfl) e_sn)))))
def w_Heap_bringFields (l0 : Nat) (l1 : Nat) (l2 : Int32) (l3 : Int32) (M : eM) (Q : eM → Prop) : Prop := ∃ n1 : Nat, w_Heap_bringFields_3 n1 l0 l1 l2 l3 0 M Q
theorem b_Heap_bringFields {d : Nat} {l0 : Nat} {l1 : Nat} {l2 : Int32} {l3 : Int32} {M : eM} {Q : eM → Prop} (hd : 2 ≤ d) (h : w_Heap_bringFields l0 l1 l2 l3 M Q) : e_CV 33 d 0 0 [.ref l0, .ref l1, .int l2, .int l3] M Q := by
  unfold w_Heap_bringFields at h
  show e_E 33 d 0 0 0 [(0, .ref l0), (1, .ref l1), (2, .int l2), (3, .int l3)] [] M (e_QV Q)
  refine r_iconst (kd33 rfl) (y := 0) (by decide) rfl ?_
  refine r_istore (kd33 rfl) L33 (by decide) rfl rfl ?_
  obtain ⟨n, h⟩ := h
  exact (b_Heap_bringFields_3 hd n _ _ _ _ _ _ h).less (e_sc (List.mem_of_getElem? (i := 1) rfl) (e_sc (List.mem_of_getElem? (i := 2) rfl) (e_sc (List.mem_of_getElem? (i := 3) rfl) (e_sc (List.mem_of_getElem? (i := 4) rfl) (e_sc (List.mem_of_getElem? (i := 0) rfl) e_sn)))))
/-- TierMill$Heap.collect(LTierMill$Program;LTierMill$Frames;)V -/
theorem kd31 {pc : Nat} {q : eI} (h : e_d31.lookup pc = some q) : e_dec 31 pc = some q := h
theorem L31 : (e_m 31).2.2.1 = 8 := rfl
theorem R31 : (e_m 31).2.2.2.1 = none := rfl
def w_Heap_collect_169 (l0 : Nat) (l1 : Nat) (l4 : Int32) (l5 : Int32) (M : eM) (Q : eM → Prop) (k125 : Nat → Nat → Int32 → eM → Prop) : Prop := e_ob M l0 3 ∧ w_Heap_partsOf l0 l1 l5 M (fun (v12 : Int32) (M11 : eM) => k125 l0 l1 (l4 + (2 + v12)) M11)
theorem b_Heap_collect_169 {d : Nat} {l0 : Nat} {l1 : Nat} {l4 : Int32} {l5 : Int32} {M : eM} {Q : eM → Prop} {k125 : Nat → Nat → Int32 → eM → Prop} (hd : 3 ≤ d) (hk125 : ∀ (l0 : Nat) (l1 : Nat) (l4 : Int32) (M : eM), k125 l0 l1 l4 M → e_E 31 d 0 0 125 [(0, .ref l0), (1, .ref l1), (4, .int l4)] [] M (e_QV Q)) (h : w_Heap_collect_169 l0 l1 l4 l5 M Q k125) : e_E 31 d 0 0 169 [(0, .ref l0), (1, .ref l1), (4, .int l4), (5, .int l5)] [] M (e_QV Q) := by
  unfold w_Heap_collect_169 at h
  refine r_iload (kd31 rfl) rfl rfl ?_
  refine r_iconst (kd31 rfl) (y := 2) (by decide) rfl ?_
  refine r_aload_n (kd31 rfl) rfl rfl ?_
  refine r_aload_n (kd31 rfl) rfl rfl ?_
  refine r_iload (kd31 rfl) rfl rfl ?_
  obtain ⟨g, h⟩ := h
  refine r_callVI (d' := d - 1) (by omega) (kd31 rfl) (by decide) rfl rfl rfl rfl (Nat.le_of_ble_eq_true rfl) rfl L27 (Nat.le_of_ble_eq_true rfl) (Nat.le_of_ble_eq_true rfl) g (Nat.zero_le _) (Nat.zero_le _) rfl rfl rfl (b_Heap_partsOf (by omega) h) (fun x1 M1 h => ?_)
  refine r_iadd (kd31 rfl) rfl ?_
  refine r_iadd (kd31 rfl) rfl ?_
  refine r_istore (kd31 rfl) L31 (by decide) rfl rfl ?_
  refine r_goto (kd31 rfl) ?_
  exact (hk125 _ _ _ _ h).less (e_sc (List.mem_of_getElem? (i := 1) rfl) (e_sc (List.mem_of_getElem? (i := 2) rfl) (e_sc (List.mem_of_getElem? (i := 0) rfl) e_sn)))
def w_Heap_collect_186 (M : eM) (Q : eM → Prop) : Prop := Q M
theorem b_Heap_collect_186 {d : Nat} {M : eM} {Q : eM → Prop} (hd : 3 ≤ d) (h : w_Heap_collect_186 M Q ) : e_E 31 d 0 0 186 [] [] M (e_QV Q) := by
  unfold w_Heap_collect_186 at h
  exact r_return (kd31 rfl) R31 h
def w_Heap_collect_125 : Nat → Nat → Nat → Int32 → eM → (eM → Prop) → Prop
  | 0, _, _, _, _, _ => False
  | n + 1, l0, l1, l4, M, Q => e_ob M l0 3 ∧ ((gi M l0 1) < l4 → w_Heap_collect_186  M Q) ∧ (¬ (gi M l0 1) < l4 → (4000 ≤ l4 → w_Heap_collect_186  M Q) ∧ (¬ 4000 ≤ l4 → e_ob M l0 3 ∧ e_ai M (gr M l0 3) (l4 + 1) ∧ (16 ≤ (gi M (gr M l0 3) (l4 + 1).toNatClampNeg) → w_Heap_collect_169 l0 l1 l4 (gi M (gr M l0 3) (l4 + 1).toNatClampNeg) M Q (fun l0 l1 l4 M => w_Heap_collect_125 n l0 l1 l4 M Q )) ∧ (¬ 16 ≤ (gi M (gr M l0 3) (l4 + 1).toNatClampNeg) → e_ob M l0 3 ∧ w_Heap_bringFields l0 l1 l4 (gi M (gr M l0 3) (l4 + 1).toNatClampNeg) M (fun (M10 : eM) => w_Heap_collect_169 l0 l1 l4 (gi M (gr M l0 3) (l4 + 1).toNatClampNeg) M10 Q (fun l0 l1 l4 M => w_Heap_collect_125 n l0 l1 l4 M Q )))))
theorem b_Heap_collect_125 {d : Nat} {Q : eM → Prop} (hd : 3 ≤ d) (n : Nat) : ∀ (l0 : Nat) (l1 : Nat) (l4 : Int32) (M : eM), w_Heap_collect_125 n l0 l1 l4 M Q → e_E 31 d 0 0 125 [(0, .ref l0), (1, .ref l1), (4, .int l4)] [] M (e_QV Q) := by
  induction n with
  | zero => intro l0 l1 l4 M h; exact False.elim h
  | succ n ih =>
    intro l0 l1 l4 M h
    have hk125 := ih
    refine r_iload (kd31 rfl) rfl rfl ?_
    refine r_aload_n (kd31 rfl) rfl rfl ?_
    obtain ⟨g, h⟩ := h
    refine r_get0 (kd31 rfl) (by decide) rfl g rfl ?_
    refine r_icmp_gt (kd31 rfl) rfl (fun c => ?_) (fun c => ?_)
    · have h := h.1 c
      exact (b_Heap_collect_186 hd h).less e_sn
    · have h := h.2 c
      refine r_iload (kd31 rfl) rfl rfl ?_
      refine r_sipush (kd31 rfl) (y := 4000) (by decide) rfl ?_
      refine r_icmp_ge (kd31 rfl) rfl (fun c => ?_) (fun c => ?_)
      · have h := h.1 c
        exact (b_Heap_collect_186 hd h).less e_sn
      · have h := h.2 c
        refine r_aload_n (kd31 rfl) rfl rfl ?_
        obtain ⟨g, h⟩ := h
        refine r_get2 (kd31 rfl) (by decide) rfl g rfl ?_
        refine r_iload (kd31 rfl) rfl rfl ?_
        refine r_iconst (kd31 rfl) (y := 1) (by decide) rfl ?_
        refine r_iadd (kd31 rfl) rfl ?_
        obtain ⟨g, h⟩ := h
        refine r_iaload (kd31 rfl) g rfl ?_
        refine r_istore (kd31 rfl) L31 (by decide) rfl rfl ?_
        refine r_iload (kd31 rfl) rfl rfl ?_
        refine r_bipush (kd31 rfl) (y := 16) (by decide) rfl ?_
        refine r_icmp_ge (kd31 rfl) rfl (fun c => ?_) (fun c => ?_)
        · have h := h.1 c
          exact (b_Heap_collect_169 hd hk125 h).less (e_sc (List.mem_of_getElem? (i := 1) rfl) (e_sc (List.mem_of_getElem? (i := 2) rfl) (e_sc (List.mem_of_getElem? (i := 3) rfl) (e_sc (List.mem_of_getElem? (i := 0) rfl) e_sn))))
        · have h := h.2 c
          refine r_aload_n (kd31 rfl) rfl rfl ?_
          refine r_aload_n (kd31 rfl) rfl rfl ?_
          refine r_iload (kd31 rfl) rfl rfl ?_
          refine r_iload (kd31 rfl) rfl rfl ?_
          obtain ⟨g, h⟩ := h
          refine r_callVV (d' := d - 1) (by omega) (kd31 rfl) (by decide) rfl rfl rfl rfl (Nat.le_of_ble_eq_true rfl) rfl L33 (Nat.le_of_ble_eq_true rfl) (Nat.le_of_ble_eq_true rfl) g (Nat.zero_le _) (Nat.zero_le _) rfl rfl rfl (b_Heap_bringFields (by omega) h) (fun M1 h => ?_)
          exact (b_Heap_collect_169 hd hk125 h).less (e_sc (List.mem_of_getElem? (i := 1) rfl) (e_sc (List.mem_of_getElem? (i := 2) rfl) (e_sc (List.mem_of_getElem? (i := 3) rfl) (e_sc (List.mem_of_getElem? (i := 0) rfl) e_sn))))
def w_Heap_collect_26 : Nat → Nat → Nat → Nat → Int32 → eM → (eM → Prop) → Prop
  | 0, _, _, _, _, _, _ => False
  | n + 1, l0, l1, l2, l4, M, Q => e_ob M l2 2 ∧ ((gi M l2 0) ≤ l4 → ∃ n5 : Nat, w_Heap_collect_125 n5 l0 l1 1 M Q) ∧ (¬ (gi M l2 0) ≤ l4 → e_ob M l2 2 ∧ w_Frames_kindsAt l2 l1 l4 M (fun (v7 : Int32) (M6 : eM) => e_ob M6 l1 6 ∧ e_ob M6 l2 2 ∧ e_ai M6 (gr M6 l2 1) l4 ∧ (e_ar M6 (gr M6 l1 10) 23 (gi M6 (gr M6 l2 1) l4.toNatClampNeg) ∨ e_ar M6 (gr M6 l1 10) 24 (gi M6 (gr M6 l2 1) l4.toNatClampNeg)) ∧ e_ob M6 (gr M6 (gr M6 l1 10) (gi M6 (gr M6 l2 1) l4.toNatClampNeg).toNatClampNeg) 8 ∧ e_ob M6 l2 2 ∧ e_ob M6 l1 6 ∧ e_ar M6 (gr M6 l1 16) 21 v7 ∧ e_ob M6 l0 3 ∧ w_Heap_bringSlots l0 l1 (gr M6 l2 7) (gl M6 (gr M6 l1 16) v7.toNatClampNeg) (l4 * 16) (gi M6 (gr M6 (gr M6 l1 10) (gi M6 (gr M6 l2 1) l4.toNatClampNeg).toNatClampNeg) 3) M6 (fun (M8 : eM) => e_ob M8 l2 2 ∧ e_ob M8 l1 6 ∧ e_ar M8 (gr M8 l1 17) 21 v7 ∧ e_ob M8 l2 2 ∧ e_ai M8 (gr M8 l2 6) l4 ∧ e_ob M8 l0 3 ∧ w_Heap_bringSlots l0 l1 (gr M8 l2 7) (gl M8 (gr M8 l1 17) v7.toNatClampNeg) ((l4 * 16) + 8) (gi M8 (gr M8 l2 6) l4.toNatClampNeg) M8 (fun (M9 : eM) => (fun l0 l1 l2 l4 M => w_Heap_collect_26 n l0 l1 l2 l4 M Q ) l0 l1 l2 (l4 + 1) M9))))
theorem b_Heap_collect_26 {d : Nat} {Q : eM → Prop} (hd : 3 ≤ d) (n : Nat) : ∀ (l0 : Nat) (l1 : Nat) (l2 : Nat) (l4 : Int32) (M : eM), w_Heap_collect_26 n l0 l1 l2 l4 M Q → e_E 31 d 0 0 26 [(0, .ref l0), (1, .ref l1), (2, .ref l2), (4, .int l4)] [] M (e_QV Q) := by
  induction n with
  | zero => intro l0 l1 l2 l4 M h; exact False.elim h
  | succ n ih =>
    intro l0 l1 l2 l4 M h
    have hk26 := ih
    refine r_iload (kd31 rfl) rfl rfl ?_
    refine r_aload_n (kd31 rfl) rfl rfl ?_
    obtain ⟨g, h⟩ := h
    refine r_get0 (kd31 rfl) (by decide) rfl g rfl ?_
    refine r_icmp_ge (kd31 rfl) rfl (fun c => ?_) (fun c => ?_)
    · have h := h.1 c
      refine r_iconst (kd31 rfl) (y := 1) (by decide) rfl ?_
      refine r_istore (kd31 rfl) L31 (by decide) rfl rfl ?_
      obtain ⟨n, h⟩ := h
      exact (b_Heap_collect_125 hd n _ _ _ _ h).less (e_sc (List.mem_of_getElem? (i := 1) rfl) (e_sc (List.mem_of_getElem? (i := 2) rfl) (e_sc (List.mem_of_getElem? (i := 0) rfl) e_sn)))
    · have h := h.2 c
      refine r_aload_n (kd31 rfl) rfl rfl ?_
      refine r_aload_n (kd31 rfl) rfl rfl ?_
      refine r_iload (kd31 rfl) rfl rfl ?_
      obtain ⟨g, h⟩ := h
      refine r_callVI (d' := d - 1) (by omega) (kd31 rfl) (by decide) rfl rfl rfl rfl (Nat.le_of_ble_eq_true rfl) rfl L20 (Nat.le_of_ble_eq_true rfl) (Nat.le_of_ble_eq_true rfl) g (Nat.zero_le _) (Nat.zero_le _) rfl rfl rfl (b_Frames_kindsAt (by omega) h) (fun x1 M1 h => ?_)
      refine r_istore (kd31 rfl) L31 (by decide) rfl rfl ?_
      refine r_iload (kd31 rfl) rfl rfl ?_
      refine r_bipush (kd31 rfl) (y := 16) (by decide) rfl ?_
      refine r_imul (kd31 rfl) rfl ?_
      refine r_istore (kd31 rfl) L31 (by decide) rfl rfl ?_
      refine r_aload_n (kd31 rfl) rfl rfl ?_
      obtain ⟨g, h⟩ := h
      refine r_get2 (kd31 rfl) (by decide) rfl g rfl ?_
      refine r_aload_n (kd31 rfl) rfl rfl ?_
      obtain ⟨g, h⟩ := h
      refine r_get2 (kd31 rfl) (by decide) rfl g rfl ?_
      refine r_iload (kd31 rfl) rfl rfl ?_
      obtain ⟨g, h⟩ := h
      refine r_iaload (kd31 rfl) g rfl ?_
      obtain ⟨g, h⟩ := h
      refine r_aaload (kd31 rfl) g rfl ?_
      obtain ⟨g, h⟩ := h
      refine r_get0 (kd31 rfl) (by decide) rfl g rfl ?_
      refine r_istore (kd31 rfl) L31 (by decide) rfl rfl ?_
      refine r_aload_n (kd31 rfl) rfl rfl ?_
      refine r_aload_n (kd31 rfl) rfl rfl ?_
      refine r_aload_n (kd31 rfl) rfl rfl ?_
      obtain ⟨g, h⟩ := h
      refine r_get2 (kd31 rfl) (by decide) rfl g rfl ?_
      refine r_aload_n (kd31 rfl) rfl rfl ?_
      obtain ⟨g, h⟩ := h
      refine r_get2 (kd31 rfl) (by decide) rfl g rfl ?_
      refine r_iload (kd31 rfl) rfl rfl ?_
      obtain ⟨g, h⟩ := h
      refine r_laload (kd31 rfl) g rfl ?_
      refine r_iload (kd31 rfl) rfl rfl ?_
      refine r_iload (kd31 rfl) rfl rfl ?_
      obtain ⟨g, h⟩ := h
      refine r_callVV (d' := d - 1) (by omega) (kd31 rfl) (by decide) rfl rfl rfl rfl (Nat.le_of_ble_eq_true rfl) rfl L32 (Nat.le_of_ble_eq_true rfl) (Nat.le_of_ble_eq_true rfl) g (Nat.zero_le _) (Nat.zero_le _) rfl rfl rfl (b_Heap_bringSlots (by omega) h) (fun M1 h => ?_)
      refine r_aload_n (kd31 rfl) rfl rfl ?_
      refine r_aload_n (kd31 rfl) rfl rfl ?_
      refine r_aload_n (kd31 rfl) rfl rfl ?_
      obtain ⟨g, h⟩ := h
      refine r_get2 (kd31 rfl) (by decide) rfl g rfl ?_
      refine r_aload_n (kd31 rfl) rfl rfl ?_
      obtain ⟨g, h⟩ := h
      refine r_get2 (kd31 rfl) (by decide) rfl g rfl ?_
      refine r_iload (kd31 rfl) rfl rfl ?_
      obtain ⟨g, h⟩ := h
      refine r_laload (kd31 rfl) g rfl ?_
      refine r_iload (kd31 rfl) rfl rfl ?_
      refine r_bipush (kd31 rfl) (y := 8) (by decide) rfl ?_
      refine r_iadd (kd31 rfl) rfl ?_
      refine r_aload_n (kd31 rfl) rfl rfl ?_
      obtain ⟨g, h⟩ := h
      refine r_get2 (kd31 rfl) (by decide) rfl g rfl ?_
      refine r_iload (kd31 rfl) rfl rfl ?_
      obtain ⟨g, h⟩ := h
      refine r_iaload (kd31 rfl) g rfl ?_
      obtain ⟨g, h⟩ := h
      refine r_callVV (d' := d - 1) (by omega) (kd31 rfl) (by decide) rfl rfl rfl rfl (Nat.le_of_ble_eq_true rfl) rfl L32 (Nat.le_of_ble_eq_true rfl) (Nat.le_of_ble_eq_true rfl) g (Nat.zero_le _) (Nat.zero_le _) rfl rfl rfl (b_Heap_bringSlots (by omega) h) (fun M1 h => ?_)
      refine r_iinc (kd31 rfl) rfl (y := 1) (by decide) L31 (by decide) rfl rfl ?_
      refine r_goto (kd31 rfl) ?_
      exact (hk26 _ _ _ _ _ h).less (e_sc (List.mem_of_getElem? (i := 4) rfl) (e_sc (List.mem_of_getElem? (i := 5) rfl) (e_sc (List.mem_of_getElem? (i := 6) rfl) (e_sc (List.mem_of_getElem? (i := 0) rfl) e_sn))))
def w_Heap_collect (l0 : Nat) (l1 : Nat) (l2 : Nat) (M : eM) (Q : eM → Prop) : Prop := e_ob M l0 3 ∧ e_ob M l0 3 ∧ e_ob M l0 3 ∧ ∀ M1 : eM, M1 = e_sr M l0 3 (gr M l0 4) → e_ob M1 l0 3 ∧ ∀ M2 : eM, M2 = e_sr M1 l0 4 (gr M l0 3) → e_ob M2 l0 3 ∧ ∀ M3 : eM, M3 = e_si M2 l0 1 0 → ∃ n4 : Nat, w_Heap_collect_26 n4 l0 l1 l2 0 M3 Q
theorem b_Heap_collect {d : Nat} {l0 : Nat} {l1 : Nat} {l2 : Nat} {M : eM} {Q : eM → Prop} (hd : 3 ≤ d) (h : w_Heap_collect l0 l1 l2 M Q) : e_CV 31 d 0 0 [.ref l0, .ref l1, .ref l2] M Q := by
  unfold w_Heap_collect at h
  show e_E 31 d 0 0 0 [(0, .ref l0), (1, .ref l1), (2, .ref l2)] [] M (e_QV Q)
  refine r_aload_n (kd31 rfl) rfl rfl ?_
  obtain ⟨g, h⟩ := h
  refine r_get2 (kd31 rfl) (by decide) rfl g rfl ?_
  refine r_astore_n (kd31 rfl) L31 (by decide) rfl rfl ?_
  refine r_aload_n (kd31 rfl) rfl rfl ?_
  refine r_aload_n (kd31 rfl) rfl rfl ?_
  obtain ⟨g, h⟩ := h
  refine r_get2 (kd31 rfl) (by decide) rfl g rfl ?_
  obtain ⟨g, h⟩ := h
  have h := h _ rfl
  refine r_put2 (kd31 rfl) (by decide) rfl g rfl ?_
  refine r_aload_n (kd31 rfl) rfl rfl ?_
  refine r_aload_n (kd31 rfl) rfl rfl ?_
  obtain ⟨g, h⟩ := h
  have h := h _ rfl
  refine r_put2 (kd31 rfl) (by decide) rfl g rfl ?_
  refine r_aload_n (kd31 rfl) rfl rfl ?_
  refine r_iconst (kd31 rfl) (y := 0) (by decide) rfl ?_
  obtain ⟨g, h⟩ := h
  have h := h _ rfl
  refine r_put0 (kd31 rfl) (by decide) rfl g rfl ?_
  refine r_iconst (kd31 rfl) (y := 0) (by decide) rfl ?_
  refine r_istore (kd31 rfl) L31 (by decide) rfl rfl ?_
  obtain ⟨n, h⟩ := h
  exact (b_Heap_collect_26 hd n _ _ _ _ _ h).less (e_sc (List.mem_of_getElem? (i := 2) rfl) (e_sc (List.mem_of_getElem? (i := 3) rfl) (e_sc (List.mem_of_getElem? (i := 4) rfl) (e_sc (List.mem_of_getElem? (i := 0) rfl) e_sn))))
/-- TierMill$Tiers.<init>()V -/
theorem kd82 {pc : Nat} {q : eI} (h : e_d82.lookup pc = some q) : e_dec 82 pc = some q := h
theorem L82 : (e_m 82).2.2.1 = 1 := rfl
theorem R82 : (e_m 82).2.2.2.1 = none := rfl
def w_Tiers_init (kc ks : Nat) (l0 : Nat) (M : eM) (Q : eM → Prop) : Prop := e_c0 ≤ l0 ∧ e_ob M l0 9 ∧ ∀ M1 : eM, M1 = e_si M l0 0 3 → e_ob M1 l0 9 ∧ ∀ M2 : eM, M2 = e_si M1 l0 1 2 → e_ob M2 l0 9 ∧ ∀ M3 : eM, M3 = e_si M2 l0 2 2 → e_ob M3 l0 9 ∧ ∀ M4 : eM, M4 = e_si M3 l0 3 40 → ¬ (16 : Int32) < 0 ∧ (16 : Int32).toNatClampNeg ≤ 400000 ∧ 1 ≤ kc ∧ (16 : Int32).toNatClampNeg ≤ ks ∧ ∀ M5 : eM, M5 = e_new M4 20 (16 : Int32).toNatClampNeg → e_ob M5 l0 9 ∧ ∀ M6 : eM, M6 = e_sr M5 l0 4 M4.1 → ¬ (6000 : Int32) < 0 ∧ (6000 : Int32).toNatClampNeg ≤ 400000 ∧ 1 ≤ (kc - 1) ∧ (6000 : Int32).toNatClampNeg ≤ (ks - (16 : Int32).toNatClampNeg) ∧ ∀ M7 : eM, M7 = e_new M6 20 (6000 : Int32).toNatClampNeg → e_ob M7 l0 9 ∧ ∀ M8 : eM, M8 = e_sr M7 l0 5 M6.1 → ¬ (30 : Int32) < 0 ∧ (30 : Int32).toNatClampNeg ≤ 400000 ∧ 1 ≤ (kc - 1 - 1) ∧ (30 : Int32).toNatClampNeg ≤ (ks - (16 : Int32).toNatClampNeg - (6000 : Int32).toNatClampNeg) ∧ ∀ M9 : eM, M9 = e_new M8 23 (30 : Int32).toNatClampNeg → e_ob M9 l0 9 ∧ ∀ M10 : eM, M10 = e_sr M9 l0 6 M8.1 → ¬ (16 : Int32) < 0 ∧ (16 : Int32).toNatClampNeg ≤ 400000 ∧ 1 ≤ (kc - 1 - 1 - 1) ∧ (16 : Int32).toNatClampNeg ≤ (ks - (16 : Int32).toNatClampNeg - (6000 : Int32).toNatClampNeg - (30 : Int32).toNatClampNeg) ∧ ∀ M11 : eM, M11 = e_new M10 20 (16 : Int32).toNatClampNeg → e_ob M11 l0 9 ∧ ∀ M12 : eM, M12 = e_sr M11 l0 8 M10.1 → ¬ (1800 : Int32) < 0 ∧ (1800 : Int32).toNatClampNeg ≤ 400000 ∧ 1 ≤ (kc - 1 - 1 - 1 - 1) ∧ (1800 : Int32).toNatClampNeg ≤ (ks - (16 : Int32).toNatClampNeg - (6000 : Int32).toNatClampNeg - (30 : Int32).toNatClampNeg - (16 : Int32).toNatClampNeg) ∧ ∀ M13 : eM, M13 = e_new M12 20 (1800 : Int32).toNatClampNeg → e_ob M13 l0 9 ∧ ∀ M14 : eM, M14 = e_sr M13 l0 9 M12.1 → Q M14
theorem b_Tiers_init {d : Nat} {kc ks : Nat} {l0 : Nat} {M : eM} {Q : eM → Prop} (hd : 0 ≤ d) (h : w_Tiers_init kc ks l0 M Q) : e_CV 82 d kc ks [.ref l0] M Q := by
  unfold w_Tiers_init at h
  show e_E 82 d kc ks 0 [(0, .ref l0)] [] M (e_QV Q)
  refine r_aload_n (kd82 rfl) rfl rfl ?_
  obtain ⟨g, h⟩ := h
  refine r_objInit (kd82 rfl) g (Nat.le_of_ble_eq_true rfl) rfl ?_
  refine r_aload_n (kd82 rfl) rfl rfl ?_
  refine r_iconst (kd82 rfl) (y := 3) (by decide) rfl ?_
  obtain ⟨g, h⟩ := h
  have h := h _ rfl
  refine r_put0 (kd82 rfl) (by decide) rfl g rfl ?_
  refine r_aload_n (kd82 rfl) rfl rfl ?_
  refine r_iconst (kd82 rfl) (y := 2) (by decide) rfl ?_
  obtain ⟨g, h⟩ := h
  have h := h _ rfl
  refine r_put0 (kd82 rfl) (by decide) rfl g rfl ?_
  refine r_aload_n (kd82 rfl) rfl rfl ?_
  refine r_iconst (kd82 rfl) (y := 2) (by decide) rfl ?_
  obtain ⟨g, h⟩ := h
  have h := h _ rfl
  refine r_put0 (kd82 rfl) (by decide) rfl g rfl ?_
  refine r_aload_n (kd82 rfl) rfl rfl ?_
  refine r_bipush (kd82 rfl) (y := 40) (by decide) rfl ?_
  obtain ⟨g, h⟩ := h
  have h := h _ rfl
  refine r_put0 (kd82 rfl) (by decide) rfl g rfl ?_
  refine r_aload_n (kd82 rfl) rfl rfl ?_
  refine r_bipush (kd82 rfl) (y := 16) (by decide) rfl ?_
  obtain ⟨g0, g3, g1, g2, h⟩ := h
  have h := h _ rfl
  refine r_newarray (kd82 rfl) (by decide) g0 g3 g1 g2 rfl ?_
  obtain ⟨g, h⟩ := h
  have h := h _ rfl
  refine r_put2 (kd82 rfl) (by decide) rfl g rfl ?_
  refine r_aload_n (kd82 rfl) rfl rfl ?_
  refine r_sipush (kd82 rfl) (y := 6000) (by decide) rfl ?_
  obtain ⟨g0, g3, g1, g2, h⟩ := h
  have h := h _ rfl
  refine r_newarray (kd82 rfl) (by decide) g0 g3 g1 g2 rfl ?_
  obtain ⟨g, h⟩ := h
  have h := h _ rfl
  refine r_put2 (kd82 rfl) (by decide) rfl g rfl ?_
  refine r_aload_n (kd82 rfl) rfl rfl ?_
  refine r_bipush (kd82 rfl) (y := 30) (by decide) rfl ?_
  obtain ⟨g0, g3, g1, g2, h⟩ := h
  have h := h _ rfl
  refine r_anewarray (kd82 rfl) (by decide) g0 g3 g1 g2 rfl ?_
  obtain ⟨g, h⟩ := h
  have h := h _ rfl
  refine r_put2 (kd82 rfl) (by decide) rfl g rfl ?_
  refine r_aload_n (kd82 rfl) rfl rfl ?_
  refine r_bipush (kd82 rfl) (y := 16) (by decide) rfl ?_
  obtain ⟨g0, g3, g1, g2, h⟩ := h
  have h := h _ rfl
  refine r_newarray (kd82 rfl) (by decide) g0 g3 g1 g2 rfl ?_
  obtain ⟨g, h⟩ := h
  have h := h _ rfl
  refine r_put2 (kd82 rfl) (by decide) rfl g rfl ?_
  refine r_aload_n (kd82 rfl) rfl rfl ?_
  refine r_sipush (kd82 rfl) (y := 1800) (by decide) rfl ?_
  obtain ⟨g0, g3, g1, g2, h⟩ := h
  have h := h _ rfl
  refine r_newarray (kd82 rfl) (by decide) g0 g3 g1 g2 rfl ?_
  obtain ⟨g, h⟩ := h
  have h := h _ rfl
  refine r_put2 (kd82 rfl) (by decide) rfl g rfl ?_
  exact r_return (kd82 rfl) R82 h
/-- java/util/Arrays.fill([II)V -/
theorem kd233 {pc : Nat} {q : eI} (h : e_d233.lookup pc = some q) : e_dec 233 pc = some q := h
theorem L233 : (e_m 233).2.2.1 = 4 := rfl
theorem R233 : (e_m 233).2.2.2.1 = none := rfl
def w_Arr_fill_5 : Nat → Nat → Int32 → Int32 → Int32 → eM → (eM → Prop) → Prop
  | 0, _, _, _, _, _, _ => False
  | n + 1, l0, l1, l2, l3, M, Q => (l3 ≤ l2 → Q M) ∧ (¬ l3 ≤ l2 → e_ar M l0 20 l2 ∧ ∀ M2 : eM, M2 = e_si M l0 l2.toNatClampNeg l1 → (fun l0 l1 l2 l3 M => w_Arr_fill_5 n l0 l1 l2 l3 M Q ) l0 l1 (l2 + 1) l3 M2)
theorem b_Arr_fill_5 {d : Nat} {Q : eM → Prop} (hd : 0 ≤ d) (n : Nat) : ∀ (l0 : Nat) (l1 : Int32) (l2 : Int32) (l3 : Int32) (M : eM), w_Arr_fill_5 n l0 l1 l2 l3 M Q → e_E 233 d 0 0 5 [(0, .ref l0), (1, .int l1), (2, .int l2), (3, .int l3)] [] M (e_QV Q) := by
  induction n with
  | zero => intro l0 l1 l2 l3 M h; exact False.elim h
  | succ n ih =>
    intro l0 l1 l2 l3 M h
    have hk5 := ih
    refine r_iload_n (kd233 rfl) rfl rfl ?_
    refine r_iload_n (kd233 rfl) rfl rfl ?_
    refine r_icmp_ge (kd233 rfl) rfl (fun c => ?_) (fun c => ?_)
    · have h := h.1 c
      exact r_return (kd233 rfl) R233 h
    · have h := h.2 c
      refine r_aload_n (kd233 rfl) rfl rfl ?_
      refine r_iload_n (kd233 rfl) rfl rfl ?_
      refine r_iload_n (kd233 rfl) rfl rfl ?_
      obtain ⟨g, h⟩ := h
      have h := h _ rfl
      refine r_iastore (kd233 rfl) g rfl ?_
      refine r_iinc (kd233 rfl) rfl (y := 1) (by decide) L233 (by decide) rfl rfl ?_
      refine r_goto (kd233 rfl) ?_
      exact (hk5 _ _ _ _ _ h).less (e_sc (List.mem_of_getElem? (i := 1) rfl) (e_sc (List.mem_of_getElem? (i := 2) rfl) (e_sc (List.mem_of_getElem? (i := 0) rfl) (e_sc (List.mem_of_getElem? (i := 3) rfl) e_sn))))
def w_Arr_fill (l0 : Nat) (l1 : Int32) (M : eM) (Q : eM → Prop) : Prop := ((0 < l0 ∧ l0 < M.1 ∧ gt M l0 = 20) ∨ (e_c0 ≤ l0 ∧ l0 < M.1 ∧ 20 ≤ gt M l0 ∧ gt M l0 ≤ 24)) ∧ ∃ n1 : Nat, w_Arr_fill_5 n1 l0 l1 0 (Int32.ofNat (gn M l0)) M Q
theorem b_Arr_fill {d : Nat} {l0 : Nat} {l1 : Int32} {M : eM} {Q : eM → Prop} (hd : 0 ≤ d) (h : w_Arr_fill l0 l1 M Q) : e_CV 233 d 0 0 [.ref l0, .int l1] M Q := by
  unfold w_Arr_fill at h
  show e_E 233 d 0 0 0 [(0, .ref l0), (1, .int l1)] [] M (e_QV Q)
  refine r_iconst (kd233 rfl) (y := 0) (by decide) rfl ?_
  refine r_istore_n (kd233 rfl) L233 (by decide) rfl rfl ?_
  refine r_aload_n (kd233 rfl) rfl rfl ?_
  obtain ⟨g, h⟩ := h
  refine r_arraylength (kd233 rfl) g rfl ?_
  refine r_istore_n (kd233 rfl) L233 (by decide) rfl rfl ?_
  obtain ⟨n, h⟩ := h
  exact (b_Arr_fill_5 hd n _ _ _ _ _ h).less (e_sc (List.mem_of_getElem? (i := 2) rfl) (e_sc (List.mem_of_getElem? (i := 3) rfl) (e_sc (List.mem_of_getElem? (i := 1) rfl) (e_sc (List.mem_of_getElem? (i := 0) rfl) e_sn))))
/-- TierMill$Tiers.clear()V -/
theorem kd83 {pc : Nat} {q : eI} (h : e_d83.lookup pc = some q) : e_dec 83 pc = some q := h
theorem L83 : (e_m 83).2.2.1 = 1 := rfl
theorem R83 : (e_m 83).2.2.2.1 = none := rfl
def w_Tiers_clear (l0 : Nat) (M : eM) (Q : eM → Prop) : Prop := e_ob M l0 9 ∧ w_Arr_fill (gr M l0 4) 0 M (fun (M1 : eM) => e_ob M1 l0 9 ∧ w_Arr_fill (gr M1 l0 8) (-1) M1 (fun (M2 : eM) => Q M2))
theorem b_Tiers_clear {d : Nat} {l0 : Nat} {M : eM} {Q : eM → Prop} (hd : 1 ≤ d) (h : w_Tiers_clear l0 M Q) : e_CV 83 d 0 0 [.ref l0] M Q := by
  unfold w_Tiers_clear at h
  show e_E 83 d 0 0 0 [(0, .ref l0)] [] M (e_QV Q)
  refine r_aload_n (kd83 rfl) rfl rfl ?_
  obtain ⟨g, h⟩ := h
  refine r_get2 (kd83 rfl) (by decide) rfl g rfl ?_
  refine r_iconst (kd83 rfl) (y := 0) (by decide) rfl ?_
  refine r_callSV (d' := d - 1) (by omega) (kd83 rfl) (by decide) rfl rfl rfl rfl (Nat.le_of_ble_eq_true rfl) rfl L233 (Nat.le_of_ble_eq_true rfl) (Nat.le_of_ble_eq_true rfl) (Nat.zero_le _) (Nat.zero_le _) rfl rfl rfl (b_Arr_fill (by omega) h) (fun M1 h => ?_)
  refine r_aload_n (kd83 rfl) rfl rfl ?_
  obtain ⟨g, h⟩ := h
  refine r_get2 (kd83 rfl) (by decide) rfl g rfl ?_
  refine r_iconst (kd83 rfl) (y := (-1)) (by decide) rfl ?_
  refine r_callSV (d' := d - 1) (by omega) (kd83 rfl) (by decide) rfl rfl rfl rfl (Nat.le_of_ble_eq_true rfl) rfl L233 (Nat.le_of_ble_eq_true rfl) (Nat.le_of_ble_eq_true rfl) (Nat.zero_le _) (Nat.zero_le _) rfl rfl rfl (b_Arr_fill (by omega) h) (fun M1 h => ?_)
  exact r_return (kd83 rfl) R83 h
/-- TierMill$Machine.<init>()V -/
theorem kd35 {pc : Nat} {q : eI} (h : e_d35.lookup pc = some q) : e_dec 35 pc = some q := h
theorem L35 : (e_m 35).2.2.1 = 1 := rfl
theorem R35 : (e_m 35).2.2.2.1 = none := rfl
def w_Machine_init (kc ks : Nat) (l0 : Nat) (M : eM) (Q : eM → Prop) : Prop := e_c0 ≤ l0 ∧ 1 ≤ kc ∧ 8 ≤ ks ∧ ∀ M1 : eM, M1 = e_new M 2 0 → e_c0 ≤ M.1 ∧ ∃ kc3 ks4 : Nat, kc3 ≤ (kc - 1) ∧ ks4 ≤ (ks - 8) ∧ w_Frames_init kc3 ks4 M.1 M1 (fun (M2 : eM) => e_ob M2 l0 4 ∧ ∀ M5 : eM, M5 = e_sr M2 l0 0 M.1 → 1 ≤ (kc - 1 - kc3) ∧ 5 ≤ (ks - 8 - ks4) ∧ ∀ M6 : eM, M6 = e_new M5 3 0 → e_c0 ≤ M5.1 ∧ ∃ kc8 ks9 : Nat, kc8 ≤ (kc - 1 - kc3 - 1) ∧ ks9 ≤ (ks - 8 - ks4 - 5) ∧ w_Heap_init kc8 ks9 M5.1 M6 (fun (M7 : eM) => e_ob M7 l0 4 ∧ ∀ M10 : eM, M10 = e_sr M7 l0 1 M5.1 → 1 ≤ (kc - 1 - kc3 - 1 - kc8) ∧ 13 ≤ (ks - 8 - ks4 - 5 - ks9) ∧ ∀ M11 : eM, M11 = e_new M10 9 0 → e_c0 ≤ M10.1 ∧ ∃ kc13 ks14 : Nat, kc13 ≤ (kc - 1 - kc3 - 1 - kc8 - 1) ∧ ks14 ≤ (ks - 8 - ks4 - 5 - ks9 - 13) ∧ w_Tiers_init kc13 ks14 M10.1 M11 (fun (M12 : eM) => e_ob M12 l0 4 ∧ ∀ M15 : eM, M15 = e_sr M12 l0 2 M10.1 → 1 ≤ (kc - 1 - kc3 - 1 - kc8 - 1 - kc13) ∧ 2 ≤ (ks - 8 - ks4 - 5 - ks9 - 13 - ks14) ∧ ∀ M16 : eM, M16 = e_new M15 1 0 → e_c0 ≤ M15.1 ∧ ∃ kc18 ks19 : Nat, kc18 ≤ (kc - 1 - kc3 - 1 - kc8 - 1 - kc13 - 1) ∧ ks19 ≤ (ks - 8 - ks4 - 5 - ks9 - 13 - ks14 - 2) ∧ w_Entries_init kc18 ks19 M15.1 M16 (fun (M17 : eM) => e_ob M17 l0 4 ∧ ∀ M20 : eM, M20 = e_sr M17 l0 3 M15.1 → ¬ (500 : Int32) < 0 ∧ (500 : Int32).toNatClampNeg ≤ 400000 ∧ 1 ≤ (kc - 1 - kc3 - 1 - kc8 - 1 - kc13 - 1 - kc18) ∧ (500 : Int32).toNatClampNeg ≤ (ks - 8 - ks4 - 5 - ks9 - 13 - ks14 - 2 - ks19) ∧ ∀ M21 : eM, M21 = e_new M20 20 (500 : Int32).toNatClampNeg → e_ob M21 l0 4 ∧ ∀ M22 : eM, M22 = e_sr M21 l0 4 M20.1 → ¬ (100 : Int32) < 0 ∧ (100 : Int32).toNatClampNeg ≤ 400000 ∧ 1 ≤ (kc - 1 - kc3 - 1 - kc8 - 1 - kc13 - 1 - kc18 - 1) ∧ (100 : Int32).toNatClampNeg ≤ (ks - 8 - ks4 - 5 - ks9 - 13 - ks14 - 2 - ks19 - (500 : Int32).toNatClampNeg) ∧ ∀ M23 : eM, M23 = e_new M22 20 (100 : Int32).toNatClampNeg → e_ob M23 l0 4 ∧ ∀ M24 : eM, M24 = e_sr M23 l0 12 M22.1 → e_ob M24 l0 4 ∧ e_ob M24 (gr M24 l0 2) 9 ∧ w_Tiers_clear (gr M24 l0 2) M24 (fun (M25 : eM) => Q M25)))))
theorem b_Machine_init {d : Nat} {kc ks : Nat} {l0 : Nat} {M : eM} {Q : eM → Prop} (hd : 2 ≤ d) (h : w_Machine_init kc ks l0 M Q) : e_CV 35 d kc ks [.ref l0] M Q := by
  unfold w_Machine_init at h
  show e_E 35 d kc ks 0 [(0, .ref l0)] [] M (e_QV Q)
  refine r_aload_n (kd35 rfl) rfl rfl ?_
  obtain ⟨g, h⟩ := h
  refine r_objInit (kd35 rfl) g (Nat.le_of_ble_eq_true rfl) rfl ?_
  refine r_aload_n (kd35 rfl) rfl rfl ?_
  obtain ⟨g1, g2, h⟩ := h
  have h := h _ rfl
  refine r_new (kd35 rfl) (by decide) (n := 8) rfl g1 g2 rfl ?_
  refine r_dup (kd35 rfl) rfl rfl ?_
  obtain ⟨g, h⟩ := h
  obtain ⟨mc, ms, q1, q2, h⟩ := h
  refine r_callIV (d' := d - 1) (by omega) (kd35 rfl) (by decide) rfl rfl rfl rfl (Nat.le_of_ble_eq_true rfl) rfl L10 (Nat.le_of_ble_eq_true rfl) (Nat.le_of_ble_eq_true rfl) g q1 q2 rfl rfl rfl (b_Frames_init (by omega) h) (fun M1 h => ?_)
  obtain ⟨g, h⟩ := h
  have h := h _ rfl
  refine r_put2 (kd35 rfl) (by decide) rfl g rfl ?_
  refine r_aload_n (kd35 rfl) rfl rfl ?_
  obtain ⟨g1, g2, h⟩ := h
  have h := h _ rfl
  refine r_new (kd35 rfl) (by decide) (n := 5) rfl g1 g2 rfl ?_
  refine r_dup (kd35 rfl) rfl rfl ?_
  obtain ⟨g, h⟩ := h
  obtain ⟨mc, ms, q1, q2, h⟩ := h
  refine r_callIV (d' := d - 1) (by omega) (kd35 rfl) (by decide) rfl rfl rfl rfl (Nat.le_of_ble_eq_true rfl) rfl L22 (Nat.le_of_ble_eq_true rfl) (Nat.le_of_ble_eq_true rfl) g q1 q2 rfl rfl rfl (b_Heap_init (by omega) h) (fun M1 h => ?_)
  obtain ⟨g, h⟩ := h
  have h := h _ rfl
  refine r_put2 (kd35 rfl) (by decide) rfl g rfl ?_
  refine r_aload_n (kd35 rfl) rfl rfl ?_
  obtain ⟨g1, g2, h⟩ := h
  have h := h _ rfl
  refine r_new (kd35 rfl) (by decide) (n := 13) rfl g1 g2 rfl ?_
  refine r_dup (kd35 rfl) rfl rfl ?_
  obtain ⟨g, h⟩ := h
  obtain ⟨mc, ms, q1, q2, h⟩ := h
  refine r_callIV (d' := d - 1) (by omega) (kd35 rfl) (by decide) rfl rfl rfl rfl (Nat.le_of_ble_eq_true rfl) rfl L82 (Nat.le_of_ble_eq_true rfl) (Nat.le_of_ble_eq_true rfl) g q1 q2 rfl rfl rfl (b_Tiers_init (by omega) h) (fun M1 h => ?_)
  obtain ⟨g, h⟩ := h
  have h := h _ rfl
  refine r_put2 (kd35 rfl) (by decide) rfl g rfl ?_
  refine r_aload_n (kd35 rfl) rfl rfl ?_
  obtain ⟨g1, g2, h⟩ := h
  have h := h _ rfl
  refine r_new (kd35 rfl) (by decide) (n := 2) rfl g1 g2 rfl ?_
  refine r_dup (kd35 rfl) rfl rfl ?_
  obtain ⟨g, h⟩ := h
  obtain ⟨mc, ms, q1, q2, h⟩ := h
  refine r_callIV (d' := d - 1) (by omega) (kd35 rfl) (by decide) rfl rfl rfl rfl (Nat.le_of_ble_eq_true rfl) rfl L8 (Nat.le_of_ble_eq_true rfl) (Nat.le_of_ble_eq_true rfl) g q1 q2 rfl rfl rfl (b_Entries_init (by omega) h) (fun M1 h => ?_)
  obtain ⟨g, h⟩ := h
  have h := h _ rfl
  refine r_put2 (kd35 rfl) (by decide) rfl g rfl ?_
  refine r_aload_n (kd35 rfl) rfl rfl ?_
  refine r_sipush (kd35 rfl) (y := 500) (by decide) rfl ?_
  obtain ⟨g0, g3, g1, g2, h⟩ := h
  have h := h _ rfl
  refine r_newarray (kd35 rfl) (by decide) g0 g3 g1 g2 rfl ?_
  obtain ⟨g, h⟩ := h
  have h := h _ rfl
  refine r_put2 (kd35 rfl) (by decide) rfl g rfl ?_
  refine r_aload_n (kd35 rfl) rfl rfl ?_
  refine r_bipush (kd35 rfl) (y := 100) (by decide) rfl ?_
  obtain ⟨g0, g3, g1, g2, h⟩ := h
  have h := h _ rfl
  refine r_newarray (kd35 rfl) (by decide) g0 g3 g1 g2 rfl ?_
  obtain ⟨g, h⟩ := h
  have h := h _ rfl
  refine r_put2 (kd35 rfl) (by decide) rfl g rfl ?_
  refine r_aload_n (kd35 rfl) rfl rfl ?_
  obtain ⟨g, h⟩ := h
  refine r_get2 (kd35 rfl) (by decide) rfl g rfl ?_
  obtain ⟨g, h⟩ := h
  refine r_callVV (d' := d - 1) (by omega) (kd35 rfl) (by decide) rfl rfl rfl rfl (Nat.le_of_ble_eq_true rfl) rfl L83 (Nat.le_of_ble_eq_true rfl) (Nat.le_of_ble_eq_true rfl) g (Nat.zero_le _) (Nat.zero_le _) rfl rfl rfl (b_Tiers_clear (by omega) h) (fun M1 h => ?_)
  exact r_return (kd35 rfl) R35 h
/-- TierMill$Machine.takeInput(I)Z -/
theorem kd36 {pc : Nat} {q : eI} (h : e_d36.lookup pc = some q) : e_dec 36 pc = some q := h
theorem L36 : (e_m 36).2.2.1 = 2 := rfl
theorem R36 : (e_m 36).2.2.2.1 = (some .boolean) := rfl
def w_Machine_takeInput (l0 : Nat) (l1 : Int32) (M : eM) (Q : Int32 → eM → Prop) : Prop := e_ob M l0 4 ∧ ((gi M l0 11) < 100 → e_ob M l0 4 ∧ e_ob M l0 4 ∧ e_ob M l0 4 ∧ ¬ (100 : Int32) = 0 ∧ e_ar M (gr M l0 12) 20 (((gi M l0 13) + (gi M l0 11)) - ((gi M l0 13) + (gi M l0 11)) / 100 * 100) ∧ ∀ M1 : eM, M1 = e_si M (gr M l0 12) (((gi M l0 13) + (gi M l0 11)) - ((gi M l0 13) + (gi M l0 11)) / 100 * 100).toNatClampNeg l1 → e_ob M1 l0 4 ∧ e_ob M1 l0 4 ∧ ∀ M2 : eM, M2 = e_si M1 l0 11 ((gi M1 l0 11) + 1) → ((1 : Int32) = 0 ∨ (1 : Int32) = 1) ∧ Q (1 : Int32) M2) ∧ (¬ (gi M l0 11) < 100 → ((0 : Int32) = 0 ∨ (0 : Int32) = 1) ∧ Q (0 : Int32) M)
theorem b_Machine_takeInput {d : Nat} {l0 : Nat} {l1 : Int32} {M : eM} {Q : Int32 → eM → Prop} (hd : 0 ≤ d) (h : w_Machine_takeInput l0 l1 M Q) : e_CI 36 d 0 0 [.ref l0, .int l1] M Q := by
  unfold w_Machine_takeInput at h
  show e_E 36 d 0 0 0 [(0, .ref l0), (1, .int l1)] [] M (e_QI Q)
  refine r_aload_n (kd36 rfl) rfl rfl ?_
  obtain ⟨g, h⟩ := h
  refine r_get0 (kd36 rfl) (by decide) rfl g rfl ?_
  refine r_bipush (kd36 rfl) (y := 100) (by decide) rfl ?_
  refine r_icmp_lt (kd36 rfl) rfl (fun c => ?_) (fun c => ?_)
  · have h := h.1 c
    refine r_aload_n (kd36 rfl) rfl rfl ?_
    obtain ⟨g, h⟩ := h
    refine r_get2 (kd36 rfl) (by decide) rfl g rfl ?_
    refine r_aload_n (kd36 rfl) rfl rfl ?_
    obtain ⟨g, h⟩ := h
    refine r_get0 (kd36 rfl) (by decide) rfl g rfl ?_
    refine r_aload_n (kd36 rfl) rfl rfl ?_
    obtain ⟨g, h⟩ := h
    refine r_get0 (kd36 rfl) (by decide) rfl g rfl ?_
    refine r_iadd (kd36 rfl) rfl ?_
    refine r_bipush (kd36 rfl) (y := 100) (by decide) rfl ?_
    obtain ⟨g, h⟩ := h
    refine r_irem (kd36 rfl) g rfl ?_
    refine r_iload_n (kd36 rfl) rfl rfl ?_
    obtain ⟨g, h⟩ := h
    have h := h _ rfl
    refine r_iastore (kd36 rfl) g rfl ?_
    refine r_aload_n (kd36 rfl) rfl rfl ?_
    refine r_dup (kd36 rfl) rfl rfl ?_
    obtain ⟨g, h⟩ := h
    refine r_get0 (kd36 rfl) (by decide) rfl g rfl ?_
    refine r_iconst (kd36 rfl) (y := 1) (by decide) rfl ?_
    refine r_iadd (kd36 rfl) rfl ?_
    obtain ⟨g, h⟩ := h
    have h := h _ rfl
    refine r_put0 (kd36 rfl) (by decide) rfl g rfl ?_
    refine r_iconst (kd36 rfl) (y := 1) (by decide) rfl ?_
    exact r_zreturn (kd36 rfl) R36 h.1 h.2
  · have h := h.2 c
    refine r_iconst (kd36 rfl) (y := 0) (by decide) rfl ?_
    exact r_zreturn (kd36 rfl) R36 h.1 h.2
/-- TierMill$Machine.forget()V -/
theorem kd37 {pc : Nat} {q : eI} (h : e_d37.lookup pc = some q) : e_dec 37 pc = some q := h
theorem L37 : (e_m 37).2.2.1 = 1 := rfl
theorem R37 : (e_m 37).2.2.2.1 = none := rfl
def w_Machine_forget (l0 : Nat) (M : eM) (Q : eM → Prop) : Prop := e_ob M l0 4 ∧ ∀ M1 : eM, M1 = e_si M l0 6 0 → e_ob M1 l0 4 ∧ ∀ M2 : eM, M2 = e_si M1 l0 7 0 → e_ob M2 l0 4 ∧ ∀ M3 : eM, M3 = e_si M2 l0 8 0 → e_ob M3 l0 4 ∧ ∀ M4 : eM, M4 = e_si M3 l0 9 0 → e_ob M4 l0 4 ∧ ∀ M5 : eM, M5 = e_si M4 l0 5 0 → e_ob M5 l0 4 ∧ e_ob M5 (gr M5 l0 0) 2 ∧ ∀ M6 : eM, M6 = e_si M5 (gr M5 l0 0) 0 0 → e_ob M6 l0 4 ∧ e_ob M6 (gr M6 l0 3) 1 ∧ ∀ M7 : eM, M7 = e_si M6 (gr M6 l0 3) 0 0 → e_ob M7 l0 4 ∧ e_ob M7 (gr M7 l0 1) 3 ∧ w_Heap_clear (gr M7 l0 1) 0 M7 (fun (M8 : eM) => e_ob M8 l0 4 ∧ e_ob M8 (gr M8 l0 2) 9 ∧ w_Tiers_clear (gr M8 l0 2) M8 (fun (M9 : eM) => Q M9))
theorem b_Machine_forget {d : Nat} {l0 : Nat} {M : eM} {Q : eM → Prop} (hd : 2 ≤ d) (h : w_Machine_forget l0 M Q) : e_CV 37 d 0 0 [.ref l0] M Q := by
  unfold w_Machine_forget at h
  show e_E 37 d 0 0 0 [(0, .ref l0)] [] M (e_QV Q)
  refine r_aload_n (kd37 rfl) rfl rfl ?_
  refine r_iconst (kd37 rfl) (y := 0) (by decide) rfl ?_
  obtain ⟨g, h⟩ := h
  have h := h _ rfl
  refine r_put0 (kd37 rfl) (by decide) rfl g rfl ?_
  refine r_aload_n (kd37 rfl) rfl rfl ?_
  refine r_iconst (kd37 rfl) (y := 0) (by decide) rfl ?_
  obtain ⟨g, h⟩ := h
  have h := h _ rfl
  refine r_put0 (kd37 rfl) (by decide) rfl g rfl ?_
  refine r_aload_n (kd37 rfl) rfl rfl ?_
  refine r_iconst (kd37 rfl) (y := 0) (by decide) rfl ?_
  obtain ⟨g, h⟩ := h
  have h := h _ rfl
  refine r_put0 (kd37 rfl) (by decide) rfl g rfl ?_
  refine r_aload_n (kd37 rfl) rfl rfl ?_
  refine r_iconst (kd37 rfl) (y := 0) (by decide) rfl ?_
  obtain ⟨g, h⟩ := h
  have h := h _ rfl
  refine r_put0 (kd37 rfl) (by decide) rfl g rfl ?_
  refine r_aload_n (kd37 rfl) rfl rfl ?_
  refine r_iconst (kd37 rfl) (y := 0) (by decide) rfl ?_
  obtain ⟨g, h⟩ := h
  have h := h _ rfl
  refine r_put0 (kd37 rfl) (by decide) rfl g rfl ?_
  refine r_aload_n (kd37 rfl) rfl rfl ?_
  obtain ⟨g, h⟩ := h
  refine r_get2 (kd37 rfl) (by decide) rfl g rfl ?_
  refine r_iconst (kd37 rfl) (y := 0) (by decide) rfl ?_
  obtain ⟨g, h⟩ := h
  have h := h _ rfl
  refine r_put0 (kd37 rfl) (by decide) rfl g rfl ?_
  refine r_aload_n (kd37 rfl) rfl rfl ?_
  obtain ⟨g, h⟩ := h
  refine r_get2 (kd37 rfl) (by decide) rfl g rfl ?_
  refine r_iconst (kd37 rfl) (y := 0) (by decide) rfl ?_
  obtain ⟨g, h⟩ := h
  have h := h _ rfl
  refine r_put0 (kd37 rfl) (by decide) rfl g rfl ?_
  refine r_aload_n (kd37 rfl) rfl rfl ?_
  obtain ⟨g, h⟩ := h
  refine r_get2 (kd37 rfl) (by decide) rfl g rfl ?_
  refine r_iconst (kd37 rfl) (y := 0) (by decide) rfl ?_
  obtain ⟨g, h⟩ := h
  refine r_callVV (d' := d - 1) (by omega) (kd37 rfl) (by decide) rfl rfl rfl rfl (Nat.le_of_ble_eq_true rfl) rfl L23 (Nat.le_of_ble_eq_true rfl) (Nat.le_of_ble_eq_true rfl) g (Nat.zero_le _) (Nat.zero_le _) rfl rfl rfl (b_Heap_clear (by omega) h) (fun M1 h => ?_)
  refine r_aload_n (kd37 rfl) rfl rfl ?_
  obtain ⟨g, h⟩ := h
  refine r_get2 (kd37 rfl) (by decide) rfl g rfl ?_
  obtain ⟨g, h⟩ := h
  refine r_callVV (d' := d - 1) (by omega) (kd37 rfl) (by decide) rfl rfl rfl rfl (Nat.le_of_ble_eq_true rfl) rfl L83 (Nat.le_of_ble_eq_true rfl) (Nat.le_of_ble_eq_true rfl) g (Nat.zero_le _) (Nat.zero_le _) rfl rfl rfl (b_Tiers_clear (by omega) h) (fun M1 h => ?_)
  exact r_return (kd37 rfl) R37 h
/-- TierMill$Tiers.planNumber(I)I -/
theorem kd85 {pc : Nat} {q : eI} (h : e_d85.lookup pc = some q) : e_dec 85 pc = some q := h
theorem L85 : (e_m 85).2.2.1 = 2 := rfl
theorem R85 : (e_m 85).2.2.2.1 = (some .int) := rfl
def w_Tiers_planNumber (l0 : Nat) (l1 : Int32) (M : eM) (Q : Int32 → eM → Prop) : Prop := e_ob M l0 9 ∧ e_ai M (gr M l0 8) l1 ∧ Q (gi M (gr M l0 8) l1.toNatClampNeg) M
theorem b_Tiers_planNumber {d : Nat} {l0 : Nat} {l1 : Int32} {M : eM} {Q : Int32 → eM → Prop} (hd : 0 ≤ d) (h : w_Tiers_planNumber l0 l1 M Q) : e_CI 85 d 0 0 [.ref l0, .int l1] M Q := by
  unfold w_Tiers_planNumber at h
  show e_E 85 d 0 0 0 [(0, .ref l0), (1, .int l1)] [] M (e_QI Q)
  refine r_aload_n (kd85 rfl) rfl rfl ?_
  obtain ⟨g, h⟩ := h
  refine r_get2 (kd85 rfl) (by decide) rfl g rfl ?_
  refine r_iload_n (kd85 rfl) rfl rfl ?_
  obtain ⟨g, h⟩ := h
  refine r_iaload (kd85 rfl) g rfl ?_
  exact r_ireturn (kd85 rfl) R85 h
/-- java/util/Arrays.copyOf([II)[I -/
theorem kd235 {pc : Nat} {q : eI} (h : e_d235.lookup pc = some q) : e_dec 235 pc = some q := h
theorem L235 : (e_m 235).2.2.1 = 3 := rfl
theorem R235 : (e_m 235).2.2.2.1 = (some (.array .int)) := rfl
def w_Arr_copyOf (kc ks : Nat) (l0 : Nat) (l1 : Int32) (M : eM) (Q : Nat → eM → Prop) : Prop := ((0 < l0 ∧ l0 < M.1 ∧ gt M l0 = 20) ∨ (e_c0 ≤ l0 ∧ l0 < M.1 ∧ 20 ≤ gt M l0 ∧ gt M l0 ≤ 24)) ∧ (¬ l1 = (Int32.ofNat (gn M l0)) → ¬ l1 < 0 ∧ l1.toNatClampNeg ≤ 400000 ∧ 1 ≤ kc ∧ l1.toNatClampNeg ≤ ks ∧ ∀ M1 : eM, M1 = e_new M 20 l1.toNatClampNeg → ((0 < l0 ∧ l0 < M1.1 ∧ gt M1 l0 = 20) ∨ (e_c0 ≤ l0 ∧ l0 < M1.1 ∧ 20 ≤ gt M1 l0 ∧ gt M1 l0 ≤ 24)) ∧ e_cg M1 l0 0 M.1 0 (if l1 < (Int32.ofNat (gn M1 l0)) then l1 else (Int32.ofNat (gn M1 l0))) ∧ ∀ M2 : eM, M2 = e_cpy M1 l0 0 M.1 0 (if l1 < (Int32.ofNat (gn M1 l0)) then l1 else (Int32.ofNat (gn M1 l0))) → Q M.1 M2) ∧ (l1 = (Int32.ofNat (gn M l0)) → False)
theorem b_Arr_copyOf {d : Nat} {kc ks : Nat} {l0 : Nat} {l1 : Int32} {M : eM} {Q : Nat → eM → Prop} (hd : 0 ≤ d) (h : w_Arr_copyOf kc ks l0 l1 M Q) : e_CR 235 d kc ks [.ref l0, .int l1] M Q := by
  unfold w_Arr_copyOf at h
  show e_E 235 d kc ks 0 [(0, .ref l0), (1, .int l1)] [] M (e_QR Q)
  refine r_iload_n (kd235 rfl) rfl rfl ?_
  refine r_aload_n (kd235 rfl) rfl rfl ?_
  obtain ⟨g, h⟩ := h
  refine r_arraylength (kd235 rfl) g rfl ?_
  refine r_icmp_ne (kd235 rfl) rfl (fun c => ?_) (fun c => ?_)
  · have h := h.1 c
    refine r_iload_n (kd235 rfl) rfl rfl ?_
    obtain ⟨g0, g3, g1, g2, h⟩ := h
    have h := h _ rfl
    refine r_newarray (kd235 rfl) (by decide) g0 g3 g1 g2 rfl ?_
    refine r_astore_n (kd235 rfl) L235 (by decide) rfl rfl ?_
    refine r_aload_n (kd235 rfl) rfl rfl ?_
    refine r_iconst (kd235 rfl) (y := 0) (by decide) rfl ?_
    refine r_aload_n (kd235 rfl) rfl rfl ?_
    refine r_iconst (kd235 rfl) (y := 0) (by decide) rfl ?_
    refine r_aload_n (kd235 rfl) rfl rfl ?_
    obtain ⟨g, h⟩ := h
    refine r_arraylength (kd235 rfl) g rfl ?_
    refine r_iload_n (kd235 rfl) rfl rfl ?_
    refine r_mmin (kd235 rfl) (Nat.le_of_ble_eq_true rfl) rfl ?_
    obtain ⟨g, h⟩ := h
    have h := h _ rfl
    refine r_arraycopy (kd235 rfl) g (Nat.le_of_ble_eq_true rfl) rfl ?_
    refine r_aload_n (kd235 rfl) rfl rfl ?_
    exact r_areturn (kd235 rfl) R235 (by first | exact Or.inl ⟨_, rfl⟩ | exact Or.inr ⟨_, rfl⟩) h
  · have h := h.2 c
    refine r_aload_n (kd235 rfl) rfl rfl ?_
    exact False.elim h
/-- TierMill$Plan.<init>([III)V -/
theorem kd62 {pc : Nat} {q : eI} (h : e_d62.lookup pc = some q) : e_dec 62 pc = some q := h
theorem L62 : (e_m 62).2.2.1 = 4 := rfl
theorem R62 : (e_m 62).2.2.2.1 = none := rfl
def w_Plan_init (kc ks : Nat) (l0 : Nat) (l1 : Nat) (l2 : Int32) (l3 : Int32) (M : eM) (Q : eM → Prop) : Prop := e_c0 ≤ l0 ∧ e_ob M l0 5 ∧ ∀ M1 : eM, M1 = e_si M l0 0 l2 → e_ob M1 l0 5 ∧ ∀ M2 : eM, M2 = e_si M1 l0 1 l3 → ∃ kc4 ks5 : Nat, kc4 ≤ kc ∧ ks5 ≤ ks ∧ w_Arr_copyOf kc4 ks5 l1 (l2 * 6) M2 (fun (v6 : Nat) (M3 : eM) => e_ob M3 l0 5 ∧ ∀ M7 : eM, M7 = e_sr M3 l0 2 v6 → Q M7)
theorem b_Plan_init {d : Nat} {kc ks : Nat} {l0 : Nat} {l1 : Nat} {l2 : Int32} {l3 : Int32} {M : eM} {Q : eM → Prop} (hd : 1 ≤ d) (h : w_Plan_init kc ks l0 l1 l2 l3 M Q) : e_CV 62 d kc ks [.ref l0, .ref l1, .int l2, .int l3] M Q := by
  unfold w_Plan_init at h
  show e_E 62 d kc ks 0 [(0, .ref l0), (1, .ref l1), (2, .int l2), (3, .int l3)] [] M (e_QV Q)
  refine r_aload_n (kd62 rfl) rfl rfl ?_
  obtain ⟨g, h⟩ := h
  refine r_objInit (kd62 rfl) g (Nat.le_of_ble_eq_true rfl) rfl ?_
  refine r_aload_n (kd62 rfl) rfl rfl ?_
  refine r_iload_n (kd62 rfl) rfl rfl ?_
  obtain ⟨g, h⟩ := h
  have h := h _ rfl
  refine r_put0 (kd62 rfl) (by decide) rfl g rfl ?_
  refine r_aload_n (kd62 rfl) rfl rfl ?_
  refine r_iload_n (kd62 rfl) rfl rfl ?_
  obtain ⟨g, h⟩ := h
  have h := h _ rfl
  refine r_put0 (kd62 rfl) (by decide) rfl g rfl ?_
  refine r_aload_n (kd62 rfl) rfl rfl ?_
  refine r_aload_n (kd62 rfl) rfl rfl ?_
  refine r_iload_n (kd62 rfl) rfl rfl ?_
  refine r_bipush (kd62 rfl) (y := 6) (by decide) rfl ?_
  refine r_imul (kd62 rfl) rfl ?_
  obtain ⟨mc, ms, q1, q2, h⟩ := h
  refine r_callSR (d' := d - 1) (by omega) (kd62 rfl) (by decide) rfl rfl rfl rfl (Nat.le_of_ble_eq_true rfl) rfl L235 (Nat.le_of_ble_eq_true rfl) (Nat.le_of_ble_eq_true rfl) q1 q2 rfl rfl rfl (b_Arr_copyOf (by omega) h) (fun x1 M1 h => ?_)
  obtain ⟨g, h⟩ := h
  have h := h _ rfl
  refine r_put2 (kd62 rfl) (by decide) rfl g rfl ?_
  exact r_return (kd62 rfl) R62 h
/-- TierMill$Tiers.guardOf(I)I -/
theorem kd91 {pc : Nat} {q : eI} (h : e_d91.lookup pc = some q) : e_dec 91 pc = some q := h
theorem L91 : (e_m 91).2.2.1 = 5 := rfl
theorem R91 : (e_m 91).2.2.2.1 = (some .int) := rfl
def w_Tiers_guardOf_68 (l0 : Nat) (l2 : Int32) (l3 : Int32) (l4 : Int32) (M : eM) (Q : Int32 → eM → Prop) (k34 : Nat → Int32 → Int32 → Int32 → eM → Prop) : Prop := k34 l0 l2 l3 (l4 + 1) M
theorem b_Tiers_guardOf_68 {d : Nat} {l0 : Nat} {l2 : Int32} {l3 : Int32} {l4 : Int32} {M : eM} {Q : Int32 → eM → Prop} {k34 : Nat → Int32 → Int32 → Int32 → eM → Prop} (hd : 0 ≤ d) (hk34 : ∀ (l0 : Nat) (l2 : Int32) (l3 : Int32) (l4 : Int32) (M : eM), k34 l0 l2 l3 l4 M → e_E 91 d 0 0 34 [(0, .ref l0), (2, .int l2), (3, .int l3), (4, .int l4)] [] M (e_QI Q)) (h : w_Tiers_guardOf_68 l0 l2 l3 l4 M Q k34) : e_E 91 d 0 0 68 [(0, .ref l0), (2, .int l2), (3, .int l3), (4, .int l4)] [] M (e_QI Q) := by
  unfold w_Tiers_guardOf_68 at h
  refine r_iinc (kd91 rfl) rfl (y := 1) (by decide) L91 (by decide) rfl rfl ?_
  refine r_goto (kd91 rfl) ?_
  exact (hk34 _ _ _ _ _ h).less (e_sc (List.mem_of_getElem? (i := 1) rfl) (e_sc (List.mem_of_getElem? (i := 2) rfl) (e_sc (List.mem_of_getElem? (i := 3) rfl) (e_sc (List.mem_of_getElem? (i := 0) rfl) e_sn))))
def w_Tiers_guardOf_99 (s0 : Int32) (M : eM) (Q : Int32 → eM → Prop) : Prop := Q s0 M
theorem b_Tiers_guardOf_99 {d : Nat} {s0 : Int32} {M : eM} {Q : Int32 → eM → Prop} (hd : 0 ≤ d) (h : w_Tiers_guardOf_99 s0 M Q ) : e_E 91 d 0 0 99 [] [.int s0] M (e_QI Q) := by
  unfold w_Tiers_guardOf_99 at h
  exact r_ireturn (kd91 rfl) R91 h
def w_Tiers_guardOf_98 (M : eM) (Q : Int32 → eM → Prop) : Prop := w_Tiers_guardOf_99 (-1) M Q
theorem b_Tiers_guardOf_98 {d : Nat} {M : eM} {Q : Int32 → eM → Prop} (hd : 0 ≤ d) (h : w_Tiers_guardOf_98 M Q ) : e_E 91 d 0 0 98 [] [] M (e_QI Q) := by
  unfold w_Tiers_guardOf_98 at h
  refine r_iconst (kd91 rfl) (y := (-1)) (by decide) rfl ?_
  exact (b_Tiers_guardOf_99 hd h).less e_sn
def w_Tiers_guardOf_34 : Nat → Nat → Int32 → Int32 → Int32 → eM → (Int32 → eM → Prop) → Prop
  | 0, _, _, _, _, _, _ => False
  | n + 1, l0, l2, l3, l4, M, Q => e_ob M l0 9 ∧ e_ob M (gr M l0 12) 6 ∧ ((gi M (gr M l0 12) 2) ≤ l4 → (l3 = (-1) → w_Tiers_guardOf_98  M Q) ∧ (¬ l3 = (-1) → e_ob M l0 9 ∧ e_ai M (gr M l0 5) (l2 + l3) ∧ e_ob M l0 9 ∧ ((gi M (gr M l0 5) (l2 + l3).toNatClampNeg) < (gi M l0 1) → w_Tiers_guardOf_98  M Q) ∧ (¬ (gi M (gr M l0 5) (l2 + l3).toNatClampNeg) < (gi M l0 1) → w_Tiers_guardOf_99 l3 M Q))) ∧ (¬ (gi M (gr M l0 12) 2) ≤ l4 → e_ob M l0 9 ∧ e_ai M (gr M l0 5) (l2 + l4) ∧ ((gi M (gr M l0 5) (l2 + l4).toNatClampNeg) ≤ 0 → w_Tiers_guardOf_68 l0 l2 l3 l4 M Q (fun l0 l2 l3 l4 M => w_Tiers_guardOf_34 n l0 l2 l3 l4 M Q )) ∧ (¬ (gi M (gr M l0 5) (l2 + l4).toNatClampNeg) ≤ 0 → (l3 = (-1) → w_Tiers_guardOf_68 l0 l2 l4 l4 M Q (fun l0 l2 l3 l4 M => w_Tiers_guardOf_34 n l0 l2 l3 l4 M Q )) ∧ (¬ l3 = (-1) → Q ((-1) : Int32) M)))
theorem b_Tiers_guardOf_34 {d : Nat} {Q : Int32 → eM → Prop} (hd : 0 ≤ d) (n : Nat) : ∀ (l0 : Nat) (l2 : Int32) (l3 : Int32) (l4 : Int32) (M : eM), w_Tiers_guardOf_34 n l0 l2 l3 l4 M Q → e_E 91 d 0 0 34 [(0, .ref l0), (2, .int l2), (3, .int l3), (4, .int l4)] [] M (e_QI Q) := by
  induction n with
  | zero => intro l0 l2 l3 l4 M h; exact False.elim h
  | succ n ih =>
    intro l0 l2 l3 l4 M h
    have hk34 := ih
    refine r_iload (kd91 rfl) rfl rfl ?_
    refine r_aload_n (kd91 rfl) rfl rfl ?_
    obtain ⟨g, h⟩ := h
    refine r_get2 (kd91 rfl) (by decide) rfl g rfl ?_
    obtain ⟨g, h⟩ := h
    refine r_get0 (kd91 rfl) (by decide) rfl g rfl ?_
    refine r_icmp_ge (kd91 rfl) rfl (fun c => ?_) (fun c => ?_)
    · have h := h.1 c
      refine r_iload_n (kd91 rfl) rfl rfl ?_
      refine r_iconst (kd91 rfl) (y := (-1)) (by decide) rfl ?_
      refine r_icmp_eq (kd91 rfl) rfl (fun c => ?_) (fun c => ?_)
      · have h := h.1 c
        exact (b_Tiers_guardOf_98 hd h).less e_sn
      · have h := h.2 c
        refine r_aload_n (kd91 rfl) rfl rfl ?_
        obtain ⟨g, h⟩ := h
        refine r_get2 (kd91 rfl) (by decide) rfl g rfl ?_
        refine r_iload_n (kd91 rfl) rfl rfl ?_
        refine r_iload_n (kd91 rfl) rfl rfl ?_
        refine r_iadd (kd91 rfl) rfl ?_
        obtain ⟨g, h⟩ := h
        refine r_iaload (kd91 rfl) g rfl ?_
        refine r_aload_n (kd91 rfl) rfl rfl ?_
        obtain ⟨g, h⟩ := h
        refine r_get0 (kd91 rfl) (by decide) rfl g rfl ?_
        refine r_icmp_lt (kd91 rfl) rfl (fun c => ?_) (fun c => ?_)
        · have h := h.1 c
          exact (b_Tiers_guardOf_98 hd h).less e_sn
        · have h := h.2 c
          refine r_iload_n (kd91 rfl) rfl rfl ?_
          refine r_goto (kd91 rfl) ?_
          exact (b_Tiers_guardOf_99 hd h).less e_sn
    · have h := h.2 c
      refine r_aload_n (kd91 rfl) rfl rfl ?_
      obtain ⟨g, h⟩ := h
      refine r_get2 (kd91 rfl) (by decide) rfl g rfl ?_
      refine r_iload_n (kd91 rfl) rfl rfl ?_
      refine r_iload (kd91 rfl) rfl rfl ?_
      refine r_iadd (kd91 rfl) rfl ?_
      obtain ⟨g, h⟩ := h
      refine r_iaload (kd91 rfl) g rfl ?_
      refine r_if_le (kd91 rfl) rfl (fun c => ?_) (fun c => ?_)
      · have h := h.1 c
        exact (b_Tiers_guardOf_68 hd hk34 h).less (e_sc (List.mem_of_getElem? (i := 0) rfl) (e_sc (List.mem_of_getElem? (i := 1) rfl) (e_sc (List.mem_of_getElem? (i := 2) rfl) (e_sc (List.mem_of_getElem? (i := 3) rfl) e_sn))))
      · have h := h.2 c
        refine r_iload_n (kd91 rfl) rfl rfl ?_
        refine r_iconst (kd91 rfl) (y := (-1)) (by decide) rfl ?_
        refine r_icmp_eq (kd91 rfl) rfl (fun c => ?_) (fun c => ?_)
        · have h := h.1 c
          refine r_iload (kd91 rfl) rfl rfl ?_
          refine r_istore_n (kd91 rfl) L91 (by decide) rfl rfl ?_
          exact (b_Tiers_guardOf_68 hd hk34 h).less (e_sc (List.mem_of_getElem? (i := 1) rfl) (e_sc (List.mem_of_getElem? (i := 2) rfl) (e_sc (List.mem_of_getElem? (i := 0) rfl) (e_sc (List.mem_of_getElem? (i := 3) rfl) e_sn))))
        · have h := h.2 c
          refine r_iconst (kd91 rfl) (y := (-1)) (by decide) rfl ?_
          exact r_ireturn (kd91 rfl) R91 h
def w_Tiers_guardOf (l0 : Nat) (l1 : Int32) (M : eM) (Q : Int32 → eM → Prop) : Prop := e_ob M l0 9 ∧ e_ob M (gr M l0 12) 6 ∧ e_ai M (gr M (gr M l0 12) 0) l1 ∧ ((gi M (gr M (gr M l0 12) 0) l1.toNatClampNeg) = 48 → e_ob M l0 9 ∧ e_ob M (gr M l0 12) 6 ∧ e_ai M (gr M (gr M l0 12) 13) l1 ∧ ∃ n1 : Nat, w_Tiers_guardOf_34 n1 l0 ((gi M (gr M (gr M l0 12) 13) l1.toNatClampNeg) * 8) (-1) 0 M Q) ∧ (¬ (gi M (gr M (gr M l0 12) 0) l1.toNatClampNeg) = 48 → Q ((-1) : Int32) M)
theorem b_Tiers_guardOf {d : Nat} {l0 : Nat} {l1 : Int32} {M : eM} {Q : Int32 → eM → Prop} (hd : 0 ≤ d) (h : w_Tiers_guardOf l0 l1 M Q) : e_CI 91 d 0 0 [.ref l0, .int l1] M Q := by
  unfold w_Tiers_guardOf at h
  show e_E 91 d 0 0 0 [(0, .ref l0), (1, .int l1)] [] M (e_QI Q)
  refine r_aload_n (kd91 rfl) rfl rfl ?_
  obtain ⟨g, h⟩ := h
  refine r_get2 (kd91 rfl) (by decide) rfl g rfl ?_
  obtain ⟨g, h⟩ := h
  refine r_get2 (kd91 rfl) (by decide) rfl g rfl ?_
  refine r_iload_n (kd91 rfl) rfl rfl ?_
  obtain ⟨g, h⟩ := h
  refine r_iaload (kd91 rfl) g rfl ?_
  refine r_bipush (kd91 rfl) (y := 48) (by decide) rfl ?_
  refine r_icmp_eq (kd91 rfl) rfl (fun c => ?_) (fun c => ?_)
  · have h := h.1 c
    refine r_aload_n (kd91 rfl) rfl rfl ?_
    obtain ⟨g, h⟩ := h
    refine r_get2 (kd91 rfl) (by decide) rfl g rfl ?_
    obtain ⟨g, h⟩ := h
    refine r_get2 (kd91 rfl) (by decide) rfl g rfl ?_
    refine r_iload_n (kd91 rfl) rfl rfl ?_
    obtain ⟨g, h⟩ := h
    refine r_iaload (kd91 rfl) g rfl ?_
    refine r_bipush (kd91 rfl) (y := 8) (by decide) rfl ?_
    refine r_imul (kd91 rfl) rfl ?_
    refine r_istore_n (kd91 rfl) L91 (by decide) rfl rfl ?_
    refine r_iconst (kd91 rfl) (y := (-1)) (by decide) rfl ?_
    refine r_istore_n (kd91 rfl) L91 (by decide) rfl rfl ?_
    refine r_iconst (kd91 rfl) (y := 0) (by decide) rfl ?_
    refine r_istore (kd91 rfl) L91 (by decide) rfl rfl ?_
    obtain ⟨n, h⟩ := h
    exact (b_Tiers_guardOf_34 hd n _ _ _ _ _ h).less (e_sc (List.mem_of_getElem? (i := 3) rfl) (e_sc (List.mem_of_getElem? (i := 2) rfl) (e_sc (List.mem_of_getElem? (i := 1) rfl) (e_sc (List.mem_of_getElem? (i := 0) rfl) e_sn))))
  · have h := h.2 c
    refine r_iconst (kd91 rfl) (y := (-1)) (by decide) rfl ?_
    exact r_ireturn (kd91 rfl) R91 h
/-- TierMill$Tiers.calleeOf(II)I -/
theorem kd92 {pc : Nat} {q : eI} (h : e_d92.lookup pc = some q) : e_dec 92 pc = some q := h
theorem L92 : (e_m 92).2.2.1 = 4 := rfl
theorem R92 : (e_m 92).2.2.2.1 = (some .int) := rfl
def w_Tiers_calleeOf_88 (M : eM) (Q : Int32 → eM → Prop) : Prop := Q ((-1) : Int32) M
theorem b_Tiers_calleeOf_88 {d : Nat} {M : eM} {Q : Int32 → eM → Prop} (hd : 0 ≤ d) (h : w_Tiers_calleeOf_88 M Q ) : e_E 92 d 0 0 88 [] [] M (e_QI Q) := by
  unfold w_Tiers_calleeOf_88 at h
  refine r_iconst (kd92 rfl) (y := (-1)) (by decide) rfl ?_
  exact r_ireturn (kd92 rfl) R92 h
def w_Tiers_calleeOf_52 (l0 : Nat) (l1 : Int32) (l2 : Int32) (l3 : Int32) (M : eM) (Q : Int32 → eM → Prop) : Prop := (¬ l3 = 48 → w_Tiers_calleeOf_88 M Q) ∧ (l3 = 48 → (l2 = (-1) → w_Tiers_calleeOf_88 M Q) ∧ (¬ l2 = (-1) → e_ob M l0 9 ∧ e_ob M (gr M l0 12) 6 ∧ e_ob M l0 9 ∧ e_ob M (gr M l0 12) 6 ∧ e_ai M (gr M (gr M l0 12) 0) (l1 + 1) ∧ e_ai M (gr M (gr M l0 12) 11) ((l2 * 8) + (gi M (gr M (gr M l0 12) 0) (l1 + 1).toNatClampNeg)) ∧ Q (gi M (gr M (gr M l0 12) 11) ((l2 * 8) + (gi M (gr M (gr M l0 12) 0) (l1 + 1).toNatClampNeg)).toNatClampNeg) M))
theorem b_Tiers_calleeOf_52 {d : Nat} {l0 : Nat} {l1 : Int32} {l2 : Int32} {l3 : Int32} {M : eM} {Q : Int32 → eM → Prop} (hd : 0 ≤ d) (h : w_Tiers_calleeOf_52 l0 l1 l2 l3 M Q ) : e_E 92 d 0 0 52 [(0, .ref l0), (1, .int l1), (2, .int l2), (3, .int l3)] [] M (e_QI Q) := by
  unfold w_Tiers_calleeOf_52 at h
  refine r_iload_n (kd92 rfl) rfl rfl ?_
  refine r_bipush (kd92 rfl) (y := 48) (by decide) rfl ?_
  refine r_icmp_ne (kd92 rfl) rfl (fun c => ?_) (fun c => ?_)
  · have h := h.1 c
    exact (b_Tiers_calleeOf_88 hd h).less e_sn
  · have h := h.2 c
    refine r_iload_n (kd92 rfl) rfl rfl ?_
    refine r_iconst (kd92 rfl) (y := (-1)) (by decide) rfl ?_
    refine r_icmp_eq (kd92 rfl) rfl (fun c => ?_) (fun c => ?_)
    · have h := h.1 c
      exact (b_Tiers_calleeOf_88 hd h).less e_sn
    · have h := h.2 c
      refine r_aload_n (kd92 rfl) rfl rfl ?_
      obtain ⟨g, h⟩ := h
      refine r_get2 (kd92 rfl) (by decide) rfl g rfl ?_
      obtain ⟨g, h⟩ := h
      refine r_get2 (kd92 rfl) (by decide) rfl g rfl ?_
      refine r_iload_n (kd92 rfl) rfl rfl ?_
      refine r_bipush (kd92 rfl) (y := 8) (by decide) rfl ?_
      refine r_imul (kd92 rfl) rfl ?_
      refine r_aload_n (kd92 rfl) rfl rfl ?_
      obtain ⟨g, h⟩ := h
      refine r_get2 (kd92 rfl) (by decide) rfl g rfl ?_
      obtain ⟨g, h⟩ := h
      refine r_get2 (kd92 rfl) (by decide) rfl g rfl ?_
      refine r_iload_n (kd92 rfl) rfl rfl ?_
      refine r_iconst (kd92 rfl) (y := 1) (by decide) rfl ?_
      refine r_iadd (kd92 rfl) rfl ?_
      obtain ⟨g, h⟩ := h
      refine r_iaload (kd92 rfl) g rfl ?_
      refine r_iadd (kd92 rfl) rfl ?_
      obtain ⟨g, h⟩ := h
      refine r_iaload (kd92 rfl) g rfl ?_
      exact r_ireturn (kd92 rfl) R92 h
def w_Tiers_calleeOf (l0 : Nat) (l1 : Int32) (l2 : Int32) (M : eM) (Q : Int32 → eM → Prop) : Prop := e_ob M l0 9 ∧ e_ob M (gr M l0 12) 6 ∧ e_ai M (gr M (gr M l0 12) 0) l1 ∧ (¬ (gi M (gr M (gr M l0 12) 0) l1.toNatClampNeg) = 47 → w_Tiers_calleeOf_52 l0 l1 l2 (gi M (gr M (gr M l0 12) 0) l1.toNatClampNeg) M Q) ∧ ((gi M (gr M (gr M l0 12) 0) l1.toNatClampNeg) = 47 → e_ob M l0 9 ∧ e_ob M l0 9 ∧ e_ob M (gr M l0 12) 6 ∧ e_ai M (gr M (gr M l0 12) 13) l1 ∧ e_ai M (gr M l0 5) ((gi M (gr M (gr M l0 12) 13) l1.toNatClampNeg) * 8) ∧ e_ob M l0 9 ∧ ((gi M (gr M l0 5) ((gi M (gr M (gr M l0 12) 13) l1.toNatClampNeg) * 8).toNatClampNeg) < (gi M l0 1) → w_Tiers_calleeOf_52 l0 l1 l2 (gi M (gr M (gr M l0 12) 0) l1.toNatClampNeg) M Q) ∧ (¬ (gi M (gr M l0 5) ((gi M (gr M (gr M l0 12) 13) l1.toNatClampNeg) * 8).toNatClampNeg) < (gi M l0 1) → e_ob M l0 9 ∧ e_ob M (gr M l0 12) 6 ∧ e_ai M (gr M (gr M l0 12) 0) (l1 + 1) ∧ Q (gi M (gr M (gr M l0 12) 0) (l1 + 1).toNatClampNeg) M))
theorem b_Tiers_calleeOf {d : Nat} {l0 : Nat} {l1 : Int32} {l2 : Int32} {M : eM} {Q : Int32 → eM → Prop} (hd : 0 ≤ d) (h : w_Tiers_calleeOf l0 l1 l2 M Q) : e_CI 92 d 0 0 [.ref l0, .int l1, .int l2] M Q := by
  unfold w_Tiers_calleeOf at h
  show e_E 92 d 0 0 0 [(0, .ref l0), (1, .int l1), (2, .int l2)] [] M (e_QI Q)
  refine r_aload_n (kd92 rfl) rfl rfl ?_
  obtain ⟨g, h⟩ := h
  refine r_get2 (kd92 rfl) (by decide) rfl g rfl ?_
  obtain ⟨g, h⟩ := h
  refine r_get2 (kd92 rfl) (by decide) rfl g rfl ?_
  refine r_iload_n (kd92 rfl) rfl rfl ?_
  obtain ⟨g, h⟩ := h
  refine r_iaload (kd92 rfl) g rfl ?_
  refine r_istore_n (kd92 rfl) L92 (by decide) rfl rfl ?_
  refine r_iload_n (kd92 rfl) rfl rfl ?_
  refine r_bipush (kd92 rfl) (y := 47) (by decide) rfl ?_
  refine r_icmp_ne (kd92 rfl) rfl (fun c => ?_) (fun c => ?_)
  · have h := h.1 c
    exact (b_Tiers_calleeOf_52 hd h).less (e_sc (List.mem_of_getElem? (i := 1) rfl) (e_sc (List.mem_of_getElem? (i := 2) rfl) (e_sc (List.mem_of_getElem? (i := 3) rfl) (e_sc (List.mem_of_getElem? (i := 0) rfl) e_sn))))
  · have h := h.2 c
    refine r_aload_n (kd92 rfl) rfl rfl ?_
    obtain ⟨g, h⟩ := h
    refine r_get2 (kd92 rfl) (by decide) rfl g rfl ?_
    refine r_aload_n (kd92 rfl) rfl rfl ?_
    obtain ⟨g, h⟩ := h
    refine r_get2 (kd92 rfl) (by decide) rfl g rfl ?_
    obtain ⟨g, h⟩ := h
    refine r_get2 (kd92 rfl) (by decide) rfl g rfl ?_
    refine r_iload_n (kd92 rfl) rfl rfl ?_
    obtain ⟨g, h⟩ := h
    refine r_iaload (kd92 rfl) g rfl ?_
    refine r_bipush (kd92 rfl) (y := 8) (by decide) rfl ?_
    refine r_imul (kd92 rfl) rfl ?_
    obtain ⟨g, h⟩ := h
    refine r_iaload (kd92 rfl) g rfl ?_
    refine r_aload_n (kd92 rfl) rfl rfl ?_
    obtain ⟨g, h⟩ := h
    refine r_get0 (kd92 rfl) (by decide) rfl g rfl ?_
    refine r_icmp_lt (kd92 rfl) rfl (fun c => ?_) (fun c => ?_)
    · have h := h.1 c
      exact (b_Tiers_calleeOf_52 hd h).less (e_sc (List.mem_of_getElem? (i := 1) rfl) (e_sc (List.mem_of_getElem? (i := 2) rfl) (e_sc (List.mem_of_getElem? (i := 3) rfl) (e_sc (List.mem_of_getElem? (i := 0) rfl) e_sn))))
    · have h := h.2 c
      refine r_aload_n (kd92 rfl) rfl rfl ?_
      obtain ⟨g, h⟩ := h
      refine r_get2 (kd92 rfl) (by decide) rfl g rfl ?_
      obtain ⟨g, h⟩ := h
      refine r_get2 (kd92 rfl) (by decide) rfl g rfl ?_
      refine r_iload_n (kd92 rfl) rfl rfl ?_
      refine r_iconst (kd92 rfl) (y := 1) (by decide) rfl ?_
      refine r_iadd (kd92 rfl) rfl ?_
      obtain ⟨g, h⟩ := h
      refine r_iaload (kd92 rfl) g rfl ?_
      exact r_ireturn (kd92 rfl) R92 h
/-- TierMill$Tiers.fits(I)Z -/
theorem kd93 {pc : Nat} {q : eI} (h : e_d93.lookup pc = some q) : e_dec 93 pc = some q := h
theorem L93 : (e_m 93).2.2.1 = 3 := rfl
theorem R93 : (e_m 93).2.2.2.1 = (some .boolean) := rfl
def w_Tiers_fits_38 (s0 : Int32) (M : eM) (Q : Int32 → eM → Prop) : Prop := (s0 = 0 ∨ s0 = 1) ∧ Q s0 M
theorem b_Tiers_fits_38 {d : Nat} {s0 : Int32} {M : eM} {Q : Int32 → eM → Prop} (hd : 0 ≤ d) (h : w_Tiers_fits_38 s0 M Q ) : e_E 93 d 0 0 38 [] [.int s0] M (e_QI Q) := by
  unfold w_Tiers_fits_38 at h
  exact r_zreturn (kd93 rfl) R93 h.1 h.2
def w_Tiers_fits_37 (M : eM) (Q : Int32 → eM → Prop) : Prop := w_Tiers_fits_38 0 M Q
theorem b_Tiers_fits_37 {d : Nat} {M : eM} {Q : Int32 → eM → Prop} (hd : 0 ≤ d) (h : w_Tiers_fits_37 M Q ) : e_E 93 d 0 0 37 [] [] M (e_QI Q) := by
  unfold w_Tiers_fits_37 at h
  refine r_iconst (kd93 rfl) (y := 0) (by decide) rfl ?_
  exact (b_Tiers_fits_38 hd h).less e_sn
def w_Tiers_fits (l0 : Nat) (l1 : Int32) (M : eM) (Q : Int32 → eM → Prop) : Prop := e_ob M l0 9 ∧ e_ob M (gr M l0 12) 6 ∧ (e_ar M (gr M (gr M l0 12) 10) 23 l1 ∨ e_ar M (gr M (gr M l0 12) 10) 24 l1) ∧ e_ob M (gr M (gr M (gr M l0 12) 10) l1.toNatClampNeg) 8 ∧ e_ob M l0 9 ∧ ((gi M l0 3) < (gi M (gr M (gr M (gr M l0 12) 10) l1.toNatClampNeg) 6) → w_Tiers_fits_37 M Q) ∧ (¬ (gi M l0 3) < (gi M (gr M (gr M (gr M l0 12) 10) l1.toNatClampNeg) 6) → e_ob M l0 9 ∧ (300 < ((gi M l0 11) + (gi M (gr M (gr M (gr M l0 12) 10) l1.toNatClampNeg) 6)) → w_Tiers_fits_37 M Q) ∧ (¬ 300 < ((gi M l0 11) + (gi M (gr M (gr M (gr M l0 12) 10) l1.toNatClampNeg) 6)) → w_Tiers_fits_38 1 M Q))
theorem b_Tiers_fits {d : Nat} {l0 : Nat} {l1 : Int32} {M : eM} {Q : Int32 → eM → Prop} (hd : 0 ≤ d) (h : w_Tiers_fits l0 l1 M Q) : e_CI 93 d 0 0 [.ref l0, .int l1] M Q := by
  unfold w_Tiers_fits at h
  show e_E 93 d 0 0 0 [(0, .ref l0), (1, .int l1)] [] M (e_QI Q)
  refine r_aload_n (kd93 rfl) rfl rfl ?_
  obtain ⟨g, h⟩ := h
  refine r_get2 (kd93 rfl) (by decide) rfl g rfl ?_
  obtain ⟨g, h⟩ := h
  refine r_get2 (kd93 rfl) (by decide) rfl g rfl ?_
  refine r_iload_n (kd93 rfl) rfl rfl ?_
  obtain ⟨g, h⟩ := h
  refine r_aaload (kd93 rfl) g rfl ?_
  obtain ⟨g, h⟩ := h
  refine r_get0 (kd93 rfl) (by decide) rfl g rfl ?_
  refine r_istore_n (kd93 rfl) L93 (by decide) rfl rfl ?_
  refine r_iload_n (kd93 rfl) rfl rfl ?_
  refine r_aload_n (kd93 rfl) rfl rfl ?_
  obtain ⟨g, h⟩ := h
  refine r_get0 (kd93 rfl) (by decide) rfl g rfl ?_
  refine r_icmp_gt (kd93 rfl) rfl (fun c => ?_) (fun c => ?_)
  · have h := h.1 c
    exact (b_Tiers_fits_37 hd h).less e_sn
  · have h := h.2 c
    refine r_aload_n (kd93 rfl) rfl rfl ?_
    obtain ⟨g, h⟩ := h
    refine r_get0 (kd93 rfl) (by decide) rfl g rfl ?_
    refine r_iload_n (kd93 rfl) rfl rfl ?_
    refine r_iadd (kd93 rfl) rfl ?_
    refine r_sipush (kd93 rfl) (y := 300) (by decide) rfl ?_
    refine r_icmp_gt (kd93 rfl) rfl (fun c => ?_) (fun c => ?_)
    · have h := h.1 c
      exact (b_Tiers_fits_37 hd h).less e_sn
    · have h := h.2 c
      refine r_iconst (kd93 rfl) (y := 1) (by decide) rfl ?_
      refine r_goto (kd93 rfl) ?_
      exact (b_Tiers_fits_38 hd h).less e_sn
/-- TierMill$Tiers.addRow(IIIII)I -/
theorem kd94 {pc : Nat} {q : eI} (h : e_d94.lookup pc = some q) : e_dec 94 pc = some q := h
theorem L94 : (e_m 94).2.2.1 = 7 := rfl
theorem R94 : (e_m 94).2.2.2.1 = (some .int) := rfl
def w_Tiers_addRow (l0 : Nat) (l1 : Int32) (l2 : Int32) (l3 : Int32) (l4 : Int32) (l5 : Int32) (M : eM) (Q : Int32 → eM → Prop) : Prop := e_ob M l0 9 ∧ e_ob M l0 9 ∧ e_ar M (gr M l0 9) 20 (((gi M l0 10) * 6) + 0) ∧ ∀ M1 : eM, M1 = e_si M (gr M l0 9) (((gi M l0 10) * 6) + 0).toNatClampNeg l1 → e_ob M1 l0 9 ∧ e_ar M1 (gr M1 l0 9) 20 (((gi M l0 10) * 6) + 1) ∧ ∀ M2 : eM, M2 = e_si M1 (gr M1 l0 9) (((gi M l0 10) * 6) + 1).toNatClampNeg l2 → e_ob M2 l0 9 ∧ e_ar M2 (gr M2 l0 9) 20 (((gi M l0 10) * 6) + 2) ∧ ∀ M3 : eM, M3 = e_si M2 (gr M2 l0 9) (((gi M l0 10) * 6) + 2).toNatClampNeg l3 → e_ob M3 l0 9 ∧ e_ar M3 (gr M3 l0 9) 20 (((gi M l0 10) * 6) + 3) ∧ ∀ M4 : eM, M4 = e_si M3 (gr M3 l0 9) (((gi M l0 10) * 6) + 3).toNatClampNeg l4 → e_ob M4 l0 9 ∧ e_ar M4 (gr M4 l0 9) 20 (((gi M l0 10) * 6) + 4) ∧ ∀ M5 : eM, M5 = e_si M4 (gr M4 l0 9) (((gi M l0 10) * 6) + 4).toNatClampNeg l5 → e_ob M5 l0 9 ∧ e_ob M5 l0 9 ∧ ∀ M6 : eM, M6 = e_si M5 l0 10 ((gi M5 l0 10) + 1) → e_ob M6 l0 9 ∧ e_ob M6 l0 9 ∧ e_ob M6 (gr M6 l0 12) 6 ∧ (e_ar M6 (gr M6 (gr M6 l0 12) 10) 23 l5 ∨ e_ar M6 (gr M6 (gr M6 l0 12) 10) 24 l5) ∧ e_ob M6 (gr M6 (gr M6 (gr M6 l0 12) 10) l5.toNatClampNeg) 8 ∧ e_ob M6 l0 9 ∧ ∀ M7 : eM, M7 = e_si M6 l0 11 ((gi M6 l0 11) + (gi M6 (gr M6 (gr M6 (gr M6 l0 12) 10) l5.toNatClampNeg) 6)) → Q ((gi M l0 10) * 6) M7
theorem b_Tiers_addRow {d : Nat} {l0 : Nat} {l1 : Int32} {l2 : Int32} {l3 : Int32} {l4 : Int32} {l5 : Int32} {M : eM} {Q : Int32 → eM → Prop} (hd : 0 ≤ d) (h : w_Tiers_addRow l0 l1 l2 l3 l4 l5 M Q) : e_CI 94 d 0 0 [.ref l0, .int l1, .int l2, .int l3, .int l4, .int l5] M Q := by
  unfold w_Tiers_addRow at h
  show e_E 94 d 0 0 0 [(0, .ref l0), (1, .int l1), (2, .int l2), (3, .int l3), (4, .int l4), (5, .int l5)] [] M (e_QI Q)
  refine r_aload_n (kd94 rfl) rfl rfl ?_
  obtain ⟨g, h⟩ := h
  refine r_get0 (kd94 rfl) (by decide) rfl g rfl ?_
  refine r_bipush (kd94 rfl) (y := 6) (by decide) rfl ?_
  refine r_imul (kd94 rfl) rfl ?_
  refine r_istore (kd94 rfl) L94 (by decide) rfl rfl ?_
  refine r_aload_n (kd94 rfl) rfl rfl ?_
  obtain ⟨g, h⟩ := h
  refine r_get2 (kd94 rfl) (by decide) rfl g rfl ?_
  refine r_iload (kd94 rfl) rfl rfl ?_
  refine r_iconst (kd94 rfl) (y := 0) (by decide) rfl ?_
  refine r_iadd (kd94 rfl) rfl ?_
  refine r_iload_n (kd94 rfl) rfl rfl ?_
  obtain ⟨g, h⟩ := h
  have h := h _ rfl
  refine r_iastore (kd94 rfl) g rfl ?_
  refine r_aload_n (kd94 rfl) rfl rfl ?_
  obtain ⟨g, h⟩ := h
  refine r_get2 (kd94 rfl) (by decide) rfl g rfl ?_
  refine r_iload (kd94 rfl) rfl rfl ?_
  refine r_iconst (kd94 rfl) (y := 1) (by decide) rfl ?_
  refine r_iadd (kd94 rfl) rfl ?_
  refine r_iload_n (kd94 rfl) rfl rfl ?_
  obtain ⟨g, h⟩ := h
  have h := h _ rfl
  refine r_iastore (kd94 rfl) g rfl ?_
  refine r_aload_n (kd94 rfl) rfl rfl ?_
  obtain ⟨g, h⟩ := h
  refine r_get2 (kd94 rfl) (by decide) rfl g rfl ?_
  refine r_iload (kd94 rfl) rfl rfl ?_
  refine r_iconst (kd94 rfl) (y := 2) (by decide) rfl ?_
  refine r_iadd (kd94 rfl) rfl ?_
  refine r_iload_n (kd94 rfl) rfl rfl ?_
  obtain ⟨g, h⟩ := h
  have h := h _ rfl
  refine r_iastore (kd94 rfl) g rfl ?_
  refine r_aload_n (kd94 rfl) rfl rfl ?_
  obtain ⟨g, h⟩ := h
  refine r_get2 (kd94 rfl) (by decide) rfl g rfl ?_
  refine r_iload (kd94 rfl) rfl rfl ?_
  refine r_iconst (kd94 rfl) (y := 3) (by decide) rfl ?_
  refine r_iadd (kd94 rfl) rfl ?_
  refine r_iload (kd94 rfl) rfl rfl ?_
  obtain ⟨g, h⟩ := h
  have h := h _ rfl
  refine r_iastore (kd94 rfl) g rfl ?_
  refine r_aload_n (kd94 rfl) rfl rfl ?_
  obtain ⟨g, h⟩ := h
  refine r_get2 (kd94 rfl) (by decide) rfl g rfl ?_
  refine r_iload (kd94 rfl) rfl rfl ?_
  refine r_iconst (kd94 rfl) (y := 4) (by decide) rfl ?_
  refine r_iadd (kd94 rfl) rfl ?_
  refine r_iload (kd94 rfl) rfl rfl ?_
  obtain ⟨g, h⟩ := h
  have h := h _ rfl
  refine r_iastore (kd94 rfl) g rfl ?_
  refine r_aload_n (kd94 rfl) rfl rfl ?_
  refine r_dup (kd94 rfl) rfl rfl ?_
  obtain ⟨g, h⟩ := h
  refine r_get0 (kd94 rfl) (by decide) rfl g rfl ?_
  refine r_iconst (kd94 rfl) (y := 1) (by decide) rfl ?_
  refine r_iadd (kd94 rfl) rfl ?_
  obtain ⟨g, h⟩ := h
  have h := h _ rfl
  refine r_put0 (kd94 rfl) (by decide) rfl g rfl ?_
  refine r_aload_n (kd94 rfl) rfl rfl ?_
  refine r_dup (kd94 rfl) rfl rfl ?_
  obtain ⟨g, h⟩ := h
  refine r_get0 (kd94 rfl) (by decide) rfl g rfl ?_
  refine r_aload_n (kd94 rfl) rfl rfl ?_
  obtain ⟨g, h⟩ := h
  refine r_get2 (kd94 rfl) (by decide) rfl g rfl ?_
  obtain ⟨g, h⟩ := h
  refine r_get2 (kd94 rfl) (by decide) rfl g rfl ?_
  refine r_iload (kd94 rfl) rfl rfl ?_
  obtain ⟨g, h⟩ := h
  refine r_aaload (kd94 rfl) g rfl ?_
  obtain ⟨g, h⟩ := h
  refine r_get0 (kd94 rfl) (by decide) rfl g rfl ?_
  refine r_iadd (kd94 rfl) rfl ?_
  obtain ⟨g, h⟩ := h
  have h := h _ rfl
  refine r_put0 (kd94 rfl) (by decide) rfl g rfl ?_
  refine r_iload (kd94 rfl) rfl rfl ?_
  exact r_ireturn (kd94 rfl) R94 h
/-- TierMill$Tiers.goThrough(II)V -/
theorem kd90 {pc : Nat} {q : eI} (h : e_d90.lookup pc = some q) : e_dec 90 pc = some q := h
theorem L90 : (e_m 90).2.2.1 = 9 := rfl
theorem R90 : (e_m 90).2.2.2.1 = none := rfl
def w_Tiers_goThrough_109 (rc : Nat → Int32 → Int32 → eM → (eM → Prop) → Prop) (l0 : Nat) (l1 : Int32) (l2 : Int32) (l3 : Nat) (l4 : Int32) (M : eM) (Q : eM → Prop) (k22 : Nat → Int32 → Int32 → Nat → Int32 → eM → Prop) : Prop := e_ob M l0 9 ∧ e_ob M (gr M l0 12) 6 ∧ e_ob M l3 8 ∧ e_ai M (gr M (gr M l0 12) 12) ((gi M l3 5) + l4) ∧ k22 l0 l1 l2 l3 (l4 + (if 1 < (gi M (gr M (gr M l0 12) 12) ((gi M l3 5) + l4).toNatClampNeg) then (gi M (gr M (gr M l0 12) 12) ((gi M l3 5) + l4).toNatClampNeg) else 1)) M
theorem b_Tiers_goThrough_109 {d : Nat} {l0 : Nat} {l1 : Int32} {l2 : Int32} {l3 : Nat} {l4 : Int32} {M : eM} {Q : eM → Prop} {rc : Nat → Int32 → Int32 → eM → (eM → Prop) → Prop} {k22 : Nat → Int32 → Int32 → Nat → Int32 → eM → Prop} (hd : 1 ≤ d) (hrc : ∀ {l0 : Nat} {l1 : Int32} {l2 : Int32} {M : eM} {Q : eM → Prop}, rc l0 l1 l2 M Q → e_CV 90 (d - 1) 0 0 [.ref l0, .int l1, .int l2] M Q) (hk22 : ∀ (l0 : Nat) (l1 : Int32) (l2 : Int32) (l3 : Nat) (l4 : Int32) (M : eM), k22 l0 l1 l2 l3 l4 M → e_E 90 d 0 0 22 [(0, .ref l0), (1, .int l1), (2, .int l2), (3, .ref l3), (4, .int l4)] [] M (e_QV Q)) (h : w_Tiers_goThrough_109 rc l0 l1 l2 l3 l4 M Q k22) : e_E 90 d 0 0 109 [(0, .ref l0), (1, .int l1), (2, .int l2), (3, .ref l3), (4, .int l4)] [] M (e_QV Q) := by
  unfold w_Tiers_goThrough_109 at h
  refine r_iload (kd90 rfl) rfl rfl ?_
  refine r_iconst (kd90 rfl) (y := 1) (by decide) rfl ?_
  refine r_aload_n (kd90 rfl) rfl rfl ?_
  obtain ⟨g, h⟩ := h
  refine r_get2 (kd90 rfl) (by decide) rfl g rfl ?_
  obtain ⟨g, h⟩ := h
  refine r_get2 (kd90 rfl) (by decide) rfl g rfl ?_
  refine r_aload_n (kd90 rfl) rfl rfl ?_
  obtain ⟨g, h⟩ := h
  refine r_get0 (kd90 rfl) (by decide) rfl g rfl ?_
  refine r_iload (kd90 rfl) rfl rfl ?_
  refine r_iadd (kd90 rfl) rfl ?_
  obtain ⟨g, h⟩ := h
  refine r_iaload (kd90 rfl) g rfl ?_
  refine r_mmax (kd90 rfl) (Nat.le_of_ble_eq_true rfl) rfl ?_
  refine r_iadd (kd90 rfl) rfl ?_
  refine r_istore (kd90 rfl) L90 (by decide) rfl rfl ?_
  refine r_goto (kd90 rfl) ?_
  exact (hk22 _ _ _ _ _ _ h).less (e_sc (List.mem_of_getElem? (i := 1) rfl) (e_sc (List.mem_of_getElem? (i := 2) rfl) (e_sc (List.mem_of_getElem? (i := 3) rfl) (e_sc (List.mem_of_getElem? (i := 4) rfl) (e_sc (List.mem_of_getElem? (i := 0) rfl) e_sn)))))
def w_Tiers_goThrough_22 (rc : Nat → Int32 → Int32 → eM → (eM → Prop) → Prop) : Nat → Nat → Int32 → Int32 → Nat → Int32 → eM → (eM → Prop) → Prop
  | 0, _, _, _, _, _, _, _ => False
  | n + 1, l0, l1, l2, l3, l4, M, Q => e_ob M l3 8 ∧ ((gi M l3 6) ≤ l4 → Q M) ∧ (¬ (gi M l3 6) ≤ l4 → e_ob M l3 8 ∧ e_ob M l0 9 ∧ w_Tiers_guardOf l0 ((gi M l3 5) + l4) M (fun (v3 : Int32) (M2 : eM) => e_ob M2 l0 9 ∧ w_Tiers_calleeOf l0 ((gi M l3 5) + l4) v3 M2 (fun (v5 : Int32) (M4 : eM) => (v5 = (-1) → w_Tiers_goThrough_109 rc l0 l1 l2 l3 l4 M4 Q (fun l0 l1 l2 l3 l4 M => w_Tiers_goThrough_22 rc n l0 l1 l2 l3 l4 M Q )) ∧ (¬ v5 = (-1) → e_ob M4 l0 9 ∧ w_Tiers_fits l0 v5 M4 (fun (v7 : Int32) (M6 : eM) => (v7 = 0 → w_Tiers_goThrough_109 rc l0 l1 l2 l3 l4 M6 Q (fun l0 l1 l2 l3 l4 M => w_Tiers_goThrough_22 rc n l0 l1 l2 l3 l4 M Q )) ∧ (¬ v7 = 0 → e_ob M6 l0 9 ∧ w_Tiers_addRow l0 l2 l1 l4 v3 v5 M6 (fun (v9 : Int32) (M8 : eM) => e_ob M8 l0 9 ∧ rc l0 v5 (l2 + 1) M8 (fun (M10 : eM) => e_ob M10 l0 9 ∧ e_ob M10 l0 9 ∧ e_ar M10 (gr M10 l0 9) 20 (v9 + 5) ∧ ∀ M11 : eM, M11 = e_si M10 (gr M10 l0 9) (v9 + 5).toNatClampNeg (gi M10 l0 10) → w_Tiers_goThrough_109 rc l0 l1 l2 l3 l4 M11 Q (fun l0 l1 l2 l3 l4 M => w_Tiers_goThrough_22 rc n l0 l1 l2 l3 l4 M Q )))))))))
theorem b_Tiers_goThrough_22 {d : Nat} {rc : Nat → Int32 → Int32 → eM → (eM → Prop) → Prop} {Q : eM → Prop} (hd : 1 ≤ d) (hrc : ∀ {l0 : Nat} {l1 : Int32} {l2 : Int32} {M : eM} {Q : eM → Prop}, rc l0 l1 l2 M Q → e_CV 90 (d - 1) 0 0 [.ref l0, .int l1, .int l2] M Q) (n : Nat) : ∀ (l0 : Nat) (l1 : Int32) (l2 : Int32) (l3 : Nat) (l4 : Int32) (M : eM), w_Tiers_goThrough_22 rc n l0 l1 l2 l3 l4 M Q → e_E 90 d 0 0 22 [(0, .ref l0), (1, .int l1), (2, .int l2), (3, .ref l3), (4, .int l4)] [] M (e_QV Q) := by
  induction n with
  | zero => intro l0 l1 l2 l3 l4 M h; exact False.elim h
  | succ n ih =>
    intro l0 l1 l2 l3 l4 M h
    have hk22 := ih
    refine r_iload (kd90 rfl) rfl rfl ?_
    refine r_aload_n (kd90 rfl) rfl rfl ?_
    obtain ⟨g, h⟩ := h
    refine r_get0 (kd90 rfl) (by decide) rfl g rfl ?_
    refine r_icmp_ge (kd90 rfl) rfl (fun c => ?_) (fun c => ?_)
    · have h := h.1 c
      exact r_return (kd90 rfl) R90 h
    · have h := h.2 c
      refine r_aload_n (kd90 rfl) rfl rfl ?_
      obtain ⟨g, h⟩ := h
      refine r_get0 (kd90 rfl) (by decide) rfl g rfl ?_
      refine r_iload (kd90 rfl) rfl rfl ?_
      refine r_iadd (kd90 rfl) rfl ?_
      refine r_istore (kd90 rfl) L90 (by decide) rfl rfl ?_
      refine r_aload_n (kd90 rfl) rfl rfl ?_
      refine r_iload (kd90 rfl) rfl rfl ?_
      obtain ⟨g, h⟩ := h
      refine r_callVI (d' := d - 1) (by omega) (kd90 rfl) (by decide) rfl rfl rfl rfl (Nat.le_of_ble_eq_true rfl) rfl L91 (Nat.le_of_ble_eq_true rfl) (Nat.le_of_ble_eq_true rfl) g (Nat.zero_le _) (Nat.zero_le _) rfl rfl rfl (b_Tiers_guardOf (by omega) h) (fun x1 M1 h => ?_)
      refine r_istore (kd90 rfl) L90 (by decide) rfl rfl ?_
      refine r_aload_n (kd90 rfl) rfl rfl ?_
      refine r_iload (kd90 rfl) rfl rfl ?_
      refine r_iload (kd90 rfl) rfl rfl ?_
      obtain ⟨g, h⟩ := h
      refine r_callVI (d' := d - 1) (by omega) (kd90 rfl) (by decide) rfl rfl rfl rfl (Nat.le_of_ble_eq_true rfl) rfl L92 (Nat.le_of_ble_eq_true rfl) (Nat.le_of_ble_eq_true rfl) g (Nat.zero_le _) (Nat.zero_le _) rfl rfl rfl (b_Tiers_calleeOf (by omega) h) (fun x1 M1 h => ?_)
      refine r_istore (kd90 rfl) L90 (by decide) rfl rfl ?_
      refine r_iload (kd90 rfl) rfl rfl ?_
      refine r_iconst (kd90 rfl) (y := (-1)) (by decide) rfl ?_
      refine r_icmp_eq (kd90 rfl) rfl (fun c => ?_) (fun c => ?_)
      · have h := h.1 c
        exact (b_Tiers_goThrough_109 hd hrc hk22 h).less (e_sc (List.mem_of_getElem? (i := 3) rfl) (e_sc (List.mem_of_getElem? (i := 4) rfl) (e_sc (List.mem_of_getElem? (i := 5) rfl) (e_sc (List.mem_of_getElem? (i := 6) rfl) (e_sc (List.mem_of_getElem? (i := 7) rfl) e_sn)))))
      · have h := h.2 c
        refine r_aload_n (kd90 rfl) rfl rfl ?_
        refine r_iload (kd90 rfl) rfl rfl ?_
        obtain ⟨g, h⟩ := h
        refine r_callVI (d' := d - 1) (by omega) (kd90 rfl) (by decide) rfl rfl rfl rfl (Nat.le_of_ble_eq_true rfl) rfl L93 (Nat.le_of_ble_eq_true rfl) (Nat.le_of_ble_eq_true rfl) g (Nat.zero_le _) (Nat.zero_le _) rfl rfl rfl (b_Tiers_fits (by omega) h) (fun x1 M1 h => ?_)
        refine r_if_eq (kd90 rfl) rfl (fun c => ?_) (fun c => ?_)
        · have h := h.1 c
          exact (b_Tiers_goThrough_109 hd hrc hk22 h).less (e_sc (List.mem_of_getElem? (i := 3) rfl) (e_sc (List.mem_of_getElem? (i := 4) rfl) (e_sc (List.mem_of_getElem? (i := 5) rfl) (e_sc (List.mem_of_getElem? (i := 6) rfl) (e_sc (List.mem_of_getElem? (i := 7) rfl) e_sn)))))
        · have h := h.2 c
          refine r_aload_n (kd90 rfl) rfl rfl ?_
          refine r_iload_n (kd90 rfl) rfl rfl ?_
          refine r_iload_n (kd90 rfl) rfl rfl ?_
          refine r_iload (kd90 rfl) rfl rfl ?_
          refine r_iload (kd90 rfl) rfl rfl ?_
          refine r_iload (kd90 rfl) rfl rfl ?_
          obtain ⟨g, h⟩ := h
          refine r_callVI (d' := d - 1) (by omega) (kd90 rfl) (by decide) rfl rfl rfl rfl (Nat.le_of_ble_eq_true rfl) rfl L94 (Nat.le_of_ble_eq_true rfl) (Nat.le_of_ble_eq_true rfl) g (Nat.zero_le _) (Nat.zero_le _) rfl rfl rfl (b_Tiers_addRow (by omega) h) (fun x1 M1 h => ?_)
          refine r_istore (kd90 rfl) L90 (by decide) rfl rfl ?_
          refine r_aload_n (kd90 rfl) rfl rfl ?_
          refine r_iload (kd90 rfl) rfl rfl ?_
          refine r_iload_n (kd90 rfl) rfl rfl ?_
          refine r_iconst (kd90 rfl) (y := 1) (by decide) rfl ?_
          refine r_iadd (kd90 rfl) rfl ?_
          obtain ⟨g, h⟩ := h
          refine r_callVV (d' := d - 1) (by omega) (kd90 rfl) (by decide) rfl rfl rfl rfl (Nat.le_of_ble_eq_true rfl) rfl L90 (Nat.le_of_ble_eq_true rfl) (Nat.le_of_ble_eq_true rfl) g (Nat.zero_le _) (Nat.zero_le _) rfl rfl rfl (hrc h) (fun M1 h => ?_)
          refine r_aload_n (kd90 rfl) rfl rfl ?_
          obtain ⟨g, h⟩ := h
          refine r_get2 (kd90 rfl) (by decide) rfl g rfl ?_
          refine r_iload (kd90 rfl) rfl rfl ?_
          refine r_iconst (kd90 rfl) (y := 5) (by decide) rfl ?_
          refine r_iadd (kd90 rfl) rfl ?_
          refine r_aload_n (kd90 rfl) rfl rfl ?_
          obtain ⟨g, h⟩ := h
          refine r_get0 (kd90 rfl) (by decide) rfl g rfl ?_
          obtain ⟨g, h⟩ := h
          have h := h _ rfl
          refine r_iastore (kd90 rfl) g rfl ?_
          exact (b_Tiers_goThrough_109 hd hrc hk22 h).less (e_sc (List.mem_of_getElem? (i := 4) rfl) (e_sc (List.mem_of_getElem? (i := 5) rfl) (e_sc (List.mem_of_getElem? (i := 6) rfl) (e_sc (List.mem_of_getElem? (i := 7) rfl) (e_sc (List.mem_of_getElem? (i := 8) rfl) e_sn)))))
def w_Tiers_goThrough : Nat → Nat → Int32 → Int32 → eM → (eM → Prop) → Prop
  | 0, _, _, _, _, _ => False
  | n + 1, l0, l1, l2, M, Q => e_ob M l0 9 ∧ (l2 < (gi M l0 2) → e_ob M l0 9 ∧ e_ob M (gr M l0 12) 6 ∧ (e_ar M (gr M (gr M l0 12) 10) 23 l1 ∨ e_ar M (gr M (gr M l0 12) 10) 24 l1) ∧ ∃ n1 : Nat, w_Tiers_goThrough_22 (w_Tiers_goThrough n) n1 l0 l1 l2 (gr M (gr M (gr M l0 12) 10) l1.toNatClampNeg) 0 M Q) ∧ (¬ l2 < (gi M l0 2) → Q M)
theorem b_Tiers_goThrough (n : Nat) : ∀ {d : Nat} {l0 : Nat} {l1 : Int32} {l2 : Int32} {M : eM} {Q : eM → Prop} (hd : 1 + n ≤ d) (h : w_Tiers_goThrough n l0 l1 l2 M Q), e_CV 90 d 0 0 [.ref l0, .int l1, .int l2] M Q := by
  induction n with
  | zero => intro d l0 l1 l2 M Q hd h; exact False.elim h
  | succ n ih =>
    intro d l0 l1 l2 M Q hd h
    unfold w_Tiers_goThrough at h
    have hrc := @ih (d - 1)
    replace hrc := fun {l0 l1 l2 M Q} h => @hrc l0 l1 l2 M Q (by omega) h
    replace hd : 1 ≤ d := by omega
    show e_E 90 d 0 0 0 [(0, .ref l0), (1, .int l1), (2, .int l2)] [] M (e_QV Q)
    refine r_iload_n (kd90 rfl) rfl rfl ?_
    refine r_aload_n (kd90 rfl) rfl rfl ?_
    obtain ⟨g, h⟩ := h
    refine r_get0 (kd90 rfl) (by decide) rfl g rfl ?_
    refine r_icmp_lt (kd90 rfl) rfl (fun c => ?_) (fun c => ?_)
    · have h := h.1 c
      refine r_aload_n (kd90 rfl) rfl rfl ?_
      obtain ⟨g, h⟩ := h
      refine r_get2 (kd90 rfl) (by decide) rfl g rfl ?_
      obtain ⟨g, h⟩ := h
      refine r_get2 (kd90 rfl) (by decide) rfl g rfl ?_
      refine r_iload_n (kd90 rfl) rfl rfl ?_
      obtain ⟨g, h⟩ := h
      refine r_aaload (kd90 rfl) g rfl ?_
      refine r_astore_n (kd90 rfl) L90 (by decide) rfl rfl ?_
      refine r_iconst (kd90 rfl) (y := 0) (by decide) rfl ?_
      refine r_istore (kd90 rfl) L90 (by decide) rfl rfl ?_
      obtain ⟨n, h⟩ := h
      exact (b_Tiers_goThrough_22 hd hrc n _ _ _ _ _ _ h).less (e_sc (List.mem_of_getElem? (i := 2) rfl) (e_sc (List.mem_of_getElem? (i := 3) rfl) (e_sc (List.mem_of_getElem? (i := 4) rfl) (e_sc (List.mem_of_getElem? (i := 1) rfl) (e_sc (List.mem_of_getElem? (i := 0) rfl) e_sn)))))
    · have h := h.2 c
      exact r_return (kd90 rfl) R90 h
/-- TierMill$Tiers.invoke(I)LTierMill$Plan; -/
theorem kd88 {pc : Nat} {q : eI} (h : e_d88.lookup pc = some q) : e_dec 88 pc = some q := h
theorem L88 : (e_m 88).2.2.1 = 3 := rfl
theorem R88 : (e_m 88).2.2.2.1 = (some (.object "TierMill$Plan")) := rfl
def w_Tiers_invoke_42 (kc ks : Nat) (M : eM) (Q : Nat → eM → Prop) : Prop := Q 0 M
theorem b_Tiers_invoke_42 {d : Nat} {kc ks : Nat} {M : eM} {Q : Nat → eM → Prop} (hd : 8 ≤ d) (h : w_Tiers_invoke_42 kc ks M Q ) : e_E 88 d kc ks 42 [] [] M (e_QR Q) := by
  unfold w_Tiers_invoke_42 at h
  refine r_aconst_null (kd88 rfl) rfl ?_
  exact r_areturn (kd88 rfl) R88 (by first | exact Or.inl ⟨_, rfl⟩ | exact Or.inr ⟨_, rfl⟩) h
def w_Tiers_invoke (kc ks : Nat) (l0 : Nat) (l1 : Int32) (M : eM) (Q : Nat → eM → Prop) : Prop := e_ob M l0 9 ∧ e_ai M (gr M l0 4) l1 ∧ e_ar M (gr M l0 4) 20 l1 ∧ ∀ M1 : eM, M1 = e_si M (gr M l0 4) l1.toNatClampNeg ((gi M (gr M l0 4) l1.toNatClampNeg) + 1) → e_ob M1 l0 9 ∧ e_ai M1 (gr M1 l0 4) l1 ∧ e_ob M1 l0 9 ∧ ((gi M1 (gr M1 l0 4) l1.toNatClampNeg) < (gi M1 l0 0) → w_Tiers_invoke_42 kc ks M1 Q) ∧ (¬ (gi M1 (gr M1 l0 4) l1.toNatClampNeg) < (gi M1 l0 0) → e_ob M1 l0 9 ∧ e_ai M1 (gr M1 l0 8) l1 ∧ (¬ (gi M1 (gr M1 l0 8) l1.toNatClampNeg) = (-1) → w_Tiers_invoke_42 kc ks M1 Q) ∧ ((gi M1 (gr M1 l0 8) l1.toNatClampNeg) = (-1) → e_ob M1 l0 9 ∧ ((gi M1 l0 7) < 30 → e_ob M1 l0 9 ∧ ∀ M2 : eM, M2 = e_si M1 l0 10 0 → e_ob M2 l0 9 ∧ ∀ M3 : eM, M3 = e_si M2 l0 11 0 → e_ob M3 l0 9 ∧ w_Tiers_goThrough 6 l0 l1 0 M3 (fun (M4 : eM) => 1 ≤ kc ∧ 3 ≤ ks ∧ ∀ M5 : eM, M5 = e_new M4 5 0 → e_ob M5 l0 9 ∧ e_ob M5 l0 9 ∧ e_ob M5 l0 9 ∧ e_ob M5 l0 9 ∧ e_ob M5 (gr M5 l0 12) 6 ∧ (e_ar M5 (gr M5 (gr M5 l0 12) 10) 23 l1 ∨ e_ar M5 (gr M5 (gr M5 l0 12) 10) 24 l1) ∧ e_ob M5 (gr M5 (gr M5 (gr M5 l0 12) 10) l1.toNatClampNeg) 8 ∧ e_c0 ≤ M4.1 ∧ ∃ kc7 ks8 : Nat, kc7 ≤ (kc - 1) ∧ ks8 ≤ (ks - 3) ∧ w_Plan_init kc7 ks8 M4.1 (gr M5 l0 9) (gi M5 l0 10) ((gi M5 l0 11) + (gi M5 (gr M5 (gr M5 (gr M5 l0 12) 10) l1.toNatClampNeg) 6)) M5 (fun (M6 : eM) => e_ob M6 l0 9 ∧ e_ob M6 l0 9 ∧ ((e_ar M6 (gr M6 l0 6) 23 (gi M6 l0 7) ∧ e_ob M6 M4.1 5) ∨ (e_ar M6 (gr M6 l0 6) 24 (gi M6 l0 7) ∧ e_ob M6 M4.1 8)) ∧ ∀ M9 : eM, M9 = e_sr M6 (gr M6 l0 6) (gi M6 l0 7).toNatClampNeg M4.1 → e_ob M9 l0 9 ∧ e_ob M9 l0 9 ∧ e_ar M9 (gr M9 l0 8) 20 l1 ∧ ∀ M10 : eM, M10 = e_si M9 (gr M9 l0 8) l1.toNatClampNeg (gi M9 l0 7) → e_ob M10 l0 9 ∧ e_ob M10 l0 9 ∧ ∀ M11 : eM, M11 = e_si M10 l0 7 ((gi M10 l0 7) + 1) → Q M4.1 M11))) ∧ (¬ (gi M1 l0 7) < 30 → w_Tiers_invoke_42 kc ks M1 Q)))
theorem b_Tiers_invoke {d : Nat} {kc ks : Nat} {l0 : Nat} {l1 : Int32} {M : eM} {Q : Nat → eM → Prop} (hd : 8 ≤ d) (h : w_Tiers_invoke kc ks l0 l1 M Q) : e_CR 88 d kc ks [.ref l0, .int l1] M Q := by
  unfold w_Tiers_invoke at h
  show e_E 88 d kc ks 0 [(0, .ref l0), (1, .int l1)] [] M (e_QR Q)
  refine r_aload_n (kd88 rfl) rfl rfl ?_
  obtain ⟨g, h⟩ := h
  refine r_get2 (kd88 rfl) (by decide) rfl g rfl ?_
  refine r_iload_n (kd88 rfl) rfl rfl ?_
  refine r_dup2 (kd88 rfl) rfl rfl rfl ?_
  obtain ⟨g, h⟩ := h
  refine r_iaload (kd88 rfl) g rfl ?_
  refine r_iconst (kd88 rfl) (y := 1) (by decide) rfl ?_
  refine r_iadd (kd88 rfl) rfl ?_
  obtain ⟨g, h⟩ := h
  have h := h _ rfl
  refine r_iastore (kd88 rfl) g rfl ?_
  refine r_aload_n (kd88 rfl) rfl rfl ?_
  obtain ⟨g, h⟩ := h
  refine r_get2 (kd88 rfl) (by decide) rfl g rfl ?_
  refine r_iload_n (kd88 rfl) rfl rfl ?_
  obtain ⟨g, h⟩ := h
  refine r_iaload (kd88 rfl) g rfl ?_
  refine r_aload_n (kd88 rfl) rfl rfl ?_
  obtain ⟨g, h⟩ := h
  refine r_get0 (kd88 rfl) (by decide) rfl g rfl ?_
  refine r_icmp_lt (kd88 rfl) rfl (fun c => ?_) (fun c => ?_)
  · have h := h.1 c
    exact (b_Tiers_invoke_42 hd h).less e_sn
  · have h := h.2 c
    refine r_aload_n (kd88 rfl) rfl rfl ?_
    obtain ⟨g, h⟩ := h
    refine r_get2 (kd88 rfl) (by decide) rfl g rfl ?_
    refine r_iload_n (kd88 rfl) rfl rfl ?_
    obtain ⟨g, h⟩ := h
    refine r_iaload (kd88 rfl) g rfl ?_
    refine r_iconst (kd88 rfl) (y := (-1)) (by decide) rfl ?_
    refine r_icmp_ne (kd88 rfl) rfl (fun c => ?_) (fun c => ?_)
    · have h := h.1 c
      exact (b_Tiers_invoke_42 hd h).less e_sn
    · have h := h.2 c
      refine r_aload_n (kd88 rfl) rfl rfl ?_
      obtain ⟨g, h⟩ := h
      refine r_get0 (kd88 rfl) (by decide) rfl g rfl ?_
      refine r_bipush (kd88 rfl) (y := 30) (by decide) rfl ?_
      refine r_icmp_lt (kd88 rfl) rfl (fun c => ?_) (fun c => ?_)
      · have h := h.1 c
        refine r_aload_n (kd88 rfl) rfl rfl ?_
        refine r_iconst (kd88 rfl) (y := 0) (by decide) rfl ?_
        obtain ⟨g, h⟩ := h
        have h := h _ rfl
        refine r_put0 (kd88 rfl) (by decide) rfl g rfl ?_
        refine r_aload_n (kd88 rfl) rfl rfl ?_
        refine r_iconst (kd88 rfl) (y := 0) (by decide) rfl ?_
        obtain ⟨g, h⟩ := h
        have h := h _ rfl
        refine r_put0 (kd88 rfl) (by decide) rfl g rfl ?_
        refine r_aload_n (kd88 rfl) rfl rfl ?_
        refine r_iload_n (kd88 rfl) rfl rfl ?_
        refine r_iconst (kd88 rfl) (y := 0) (by decide) rfl ?_
        obtain ⟨g, h⟩ := h
        refine r_callVV (d' := d - 1) (by omega) (kd88 rfl) (by decide) rfl rfl rfl rfl (Nat.le_of_ble_eq_true rfl) rfl L90 (Nat.le_of_ble_eq_true rfl) (Nat.le_of_ble_eq_true rfl) g (Nat.zero_le _) (Nat.zero_le _) rfl rfl rfl (b_Tiers_goThrough 6 (by omega) h) (fun M1 h => ?_)
        obtain ⟨g1, g2, h⟩ := h
        have h := h _ rfl
        refine r_new (kd88 rfl) (by decide) (n := 3) rfl g1 g2 rfl ?_
        refine r_dup (kd88 rfl) rfl rfl ?_
        refine r_aload_n (kd88 rfl) rfl rfl ?_
        obtain ⟨g, h⟩ := h
        refine r_get2 (kd88 rfl) (by decide) rfl g rfl ?_
        refine r_aload_n (kd88 rfl) rfl rfl ?_
        obtain ⟨g, h⟩ := h
        refine r_get0 (kd88 rfl) (by decide) rfl g rfl ?_
        refine r_aload_n (kd88 rfl) rfl rfl ?_
        obtain ⟨g, h⟩ := h
        refine r_get0 (kd88 rfl) (by decide) rfl g rfl ?_
        refine r_aload_n (kd88 rfl) rfl rfl ?_
        obtain ⟨g, h⟩ := h
        refine r_get2 (kd88 rfl) (by decide) rfl g rfl ?_
        obtain ⟨g, h⟩ := h
        refine r_get2 (kd88 rfl) (by decide) rfl g rfl ?_
        refine r_iload_n (kd88 rfl) rfl rfl ?_
        obtain ⟨g, h⟩ := h
        refine r_aaload (kd88 rfl) g rfl ?_
        obtain ⟨g, h⟩ := h
        refine r_get0 (kd88 rfl) (by decide) rfl g rfl ?_
        refine r_iadd (kd88 rfl) rfl ?_
        obtain ⟨g, h⟩ := h
        obtain ⟨mc, ms, q1, q2, h⟩ := h
        refine r_callIV (d' := d - 1) (by omega) (kd88 rfl) (by decide) rfl rfl rfl rfl (Nat.le_of_ble_eq_true rfl) rfl L62 (Nat.le_of_ble_eq_true rfl) (Nat.le_of_ble_eq_true rfl) g q1 q2 rfl rfl rfl (b_Plan_init (by omega) h) (fun M1 h => ?_)
        refine r_astore_n (kd88 rfl) L88 (by decide) rfl rfl ?_
        refine r_aload_n (kd88 rfl) rfl rfl ?_
        obtain ⟨g, h⟩ := h
        refine r_get2 (kd88 rfl) (by decide) rfl g rfl ?_
        refine r_aload_n (kd88 rfl) rfl rfl ?_
        obtain ⟨g, h⟩ := h
        refine r_get0 (kd88 rfl) (by decide) rfl g rfl ?_
        refine r_aload_n (kd88 rfl) rfl rfl ?_
        obtain ⟨g, h⟩ := h
        have h := h _ rfl
        refine r_aastore (kd88 rfl) g rfl ?_
        refine r_aload_n (kd88 rfl) rfl rfl ?_
        obtain ⟨g, h⟩ := h
        refine r_get2 (kd88 rfl) (by decide) rfl g rfl ?_
        refine r_iload_n (kd88 rfl) rfl rfl ?_
        refine r_aload_n (kd88 rfl) rfl rfl ?_
        obtain ⟨g, h⟩ := h
        refine r_get0 (kd88 rfl) (by decide) rfl g rfl ?_
        obtain ⟨g, h⟩ := h
        have h := h _ rfl
        refine r_iastore (kd88 rfl) g rfl ?_
        refine r_aload_n (kd88 rfl) rfl rfl ?_
        refine r_dup (kd88 rfl) rfl rfl ?_
        obtain ⟨g, h⟩ := h
        refine r_get0 (kd88 rfl) (by decide) rfl g rfl ?_
        refine r_iconst (kd88 rfl) (y := 1) (by decide) rfl ?_
        refine r_iadd (kd88 rfl) rfl ?_
        obtain ⟨g, h⟩ := h
        have h := h _ rfl
        refine r_put0 (kd88 rfl) (by decide) rfl g rfl ?_
        refine r_aload_n (kd88 rfl) rfl rfl ?_
        exact r_areturn (kd88 rfl) R88 (by first | exact Or.inl ⟨_, rfl⟩ | exact Or.inr ⟨_, rfl⟩) h
      · have h := h.2 c
        exact (b_Tiers_invoke_42 hd h).less e_sn
/-- TierMill$Machine.openInvoked(I)V -/
theorem kd58 {pc : Nat} {q : eI} (h : e_d58.lookup pc = some q) : e_dec 58 pc = some q := h
theorem L58 : (e_m 58).2.2.1 = 4 := rfl
theorem R58 : (e_m 58).2.2.2.1 = none := rfl
def w_Machine_openInvoked_58 (kc ks : Nat) (l3 : Int32) (s0 : Int32) (s1 : Int32) (s2 : Nat) (M : eM) (Q : eM → Prop) : Prop := e_ob M s2 2 ∧ w_Frames_open s2 s1 s0 l3 (-1) M (fun (M8 : eM) => Q M8)
theorem b_Machine_openInvoked_58 {d : Nat} {kc ks : Nat} {l3 : Int32} {s0 : Int32} {s1 : Int32} {s2 : Nat} {M : eM} {Q : eM → Prop} (hd : 9 ≤ d) (h : w_Machine_openInvoked_58 kc ks l3 s0 s1 s2 M Q ) : e_E 58 d kc ks 58 [(3, .int l3)] [.int s0, .int s1, .ref s2] M (e_QV Q) := by
  unfold w_Machine_openInvoked_58 at h
  refine r_iload_n (kd58 rfl) rfl rfl ?_
  refine r_iconst (kd58 rfl) (y := (-1)) (by decide) rfl ?_
  obtain ⟨g, h⟩ := h
  refine r_callVV (d' := d - 1) (by omega) (kd58 rfl) (by decide) rfl rfl rfl rfl (Nat.le_of_ble_eq_true rfl) rfl L12 (Nat.le_of_ble_eq_true rfl) (Nat.le_of_ble_eq_true rfl) g (Nat.zero_le _) (Nat.zero_le _) rfl rfl rfl (b_Frames_open (by omega) h) (fun M1 h => ?_)
  exact r_return (kd58 rfl) R58 h
def w_Machine_openInvoked_34 (kc ks : Nat) (l0 : Nat) (l1 : Int32) (M : eM) (Q : eM → Prop) : Prop := e_ob M l0 4 ∧ e_ob M (gr M l0 2) 9 ∧ w_Tiers_planNumber (gr M l0 2) l1 M (fun (v7 : Int32) (M6 : eM) => e_ob M6 l0 4 ∧ (¬ v7 = (-1) → w_Machine_openInvoked_58 kc ks v7 1 l1 (gr M6 l0 0) M6 Q) ∧ (v7 = (-1) → w_Machine_openInvoked_58 kc ks v7 0 l1 (gr M6 l0 0) M6 Q))
theorem b_Machine_openInvoked_34 {d : Nat} {kc ks : Nat} {l0 : Nat} {l1 : Int32} {M : eM} {Q : eM → Prop} (hd : 9 ≤ d) (h : w_Machine_openInvoked_34 kc ks l0 l1 M Q ) : e_E 58 d kc ks 34 [(0, .ref l0), (1, .int l1)] [] M (e_QV Q) := by
  unfold w_Machine_openInvoked_34 at h
  refine r_aload_n (kd58 rfl) rfl rfl ?_
  obtain ⟨g, h⟩ := h
  refine r_get2 (kd58 rfl) (by decide) rfl g rfl ?_
  refine r_iload_n (kd58 rfl) rfl rfl ?_
  obtain ⟨g, h⟩ := h
  refine r_callVI (d' := d - 1) (by omega) (kd58 rfl) (by decide) rfl rfl rfl rfl (Nat.le_of_ble_eq_true rfl) rfl L85 (Nat.le_of_ble_eq_true rfl) (Nat.le_of_ble_eq_true rfl) g (Nat.zero_le _) (Nat.zero_le _) rfl rfl rfl (b_Tiers_planNumber (by omega) h) (fun x1 M1 h => ?_)
  refine r_istore_n (kd58 rfl) L58 (by decide) rfl rfl ?_
  refine r_aload_n (kd58 rfl) rfl rfl ?_
  obtain ⟨g, h⟩ := h
  refine r_get2 (kd58 rfl) (by decide) rfl g rfl ?_
  refine r_iload_n (kd58 rfl) rfl rfl ?_
  refine r_iload_n (kd58 rfl) rfl rfl ?_
  refine r_iconst (kd58 rfl) (y := (-1)) (by decide) rfl ?_
  refine r_icmp_ne (kd58 rfl) rfl (fun c => ?_) (fun c => ?_)
  · have h := h.1 c
    refine r_iconst (kd58 rfl) (y := 1) (by decide) rfl ?_
    exact (b_Machine_openInvoked_58 hd h).less (e_sc (List.mem_of_getElem? (i := 0) rfl) e_sn)
  · have h := h.2 c
    refine r_iconst (kd58 rfl) (y := 0) (by decide) rfl ?_
    refine r_goto (kd58 rfl) ?_
    exact (b_Machine_openInvoked_58 hd h).less (e_sc (List.mem_of_getElem? (i := 0) rfl) e_sn)
def w_Machine_openInvoked (kc ks : Nat) (l0 : Nat) (l1 : Int32) (M : eM) (Q : eM → Prop) : Prop := e_ob M l0 4 ∧ e_ob M (gr M l0 2) 9 ∧ ∃ kc2 ks3 : Nat, kc2 ≤ kc ∧ ks3 ≤ ks ∧ w_Tiers_invoke kc2 ks3 (gr M l0 2) l1 M (fun (v4 : Nat) (M1 : eM) => (v4 = 0 → w_Machine_openInvoked_34 (kc - kc2) (ks - ks3) l0 l1 M1 Q) ∧ (¬ v4 = 0 → e_ob M1 l0 4 ∧ e_ob M1 l0 4 ∧ e_ob M1 v4 5 ∧ e_ob M1 v4 5 ∧ e_ob M1 (gr M1 l0 3) 1 ∧ w_Entries_add (gr M1 l0 3) 1 (gi M1 l0 9) l1 (gi M1 v4 0) (gi M1 v4 1) M1 (fun (M5 : eM) => w_Machine_openInvoked_34 (kc - kc2) (ks - ks3) l0 l1 M5 Q)))
theorem b_Machine_openInvoked {d : Nat} {kc ks : Nat} {l0 : Nat} {l1 : Int32} {M : eM} {Q : eM → Prop} (hd : 9 ≤ d) (h : w_Machine_openInvoked kc ks l0 l1 M Q) : e_CV 58 d kc ks [.ref l0, .int l1] M Q := by
  unfold w_Machine_openInvoked at h
  show e_E 58 d kc ks 0 [(0, .ref l0), (1, .int l1)] [] M (e_QV Q)
  refine r_aload_n (kd58 rfl) rfl rfl ?_
  obtain ⟨g, h⟩ := h
  refine r_get2 (kd58 rfl) (by decide) rfl g rfl ?_
  refine r_iload_n (kd58 rfl) rfl rfl ?_
  obtain ⟨g, h⟩ := h
  obtain ⟨mc, ms, q1, q2, h⟩ := h
  refine r_callVR (d' := d - 1) (by omega) (kd58 rfl) (by decide) rfl rfl rfl rfl (Nat.le_of_ble_eq_true rfl) rfl L88 (Nat.le_of_ble_eq_true rfl) (Nat.le_of_ble_eq_true rfl) g q1 q2 rfl rfl rfl (b_Tiers_invoke (by omega) h) (fun x1 M1 h => ?_)
  refine r_astore_n (kd58 rfl) L58 (by decide) rfl rfl ?_
  refine r_aload_n (kd58 rfl) rfl rfl ?_
  refine r_ifnull (kd58 rfl) rfl (fun c => ?_) (fun c => ?_)
  · have h := h.1 c
    exact (b_Machine_openInvoked_34 hd h).less (e_sc (List.mem_of_getElem? (i := 1) rfl) (e_sc (List.mem_of_getElem? (i := 2) rfl) e_sn))
  · have h := h.2 c
    refine r_aload_n (kd58 rfl) rfl rfl ?_
    obtain ⟨g, h⟩ := h
    refine r_get2 (kd58 rfl) (by decide) rfl g rfl ?_
    refine r_iconst (kd58 rfl) (y := 1) (by decide) rfl ?_
    refine r_aload_n (kd58 rfl) rfl rfl ?_
    obtain ⟨g, h⟩ := h
    refine r_get0 (kd58 rfl) (by decide) rfl g rfl ?_
    refine r_iload_n (kd58 rfl) rfl rfl ?_
    refine r_aload_n (kd58 rfl) rfl rfl ?_
    obtain ⟨g, h⟩ := h
    refine r_get0 (kd58 rfl) (by decide) rfl g rfl ?_
    refine r_aload_n (kd58 rfl) rfl rfl ?_
    obtain ⟨g, h⟩ := h
    refine r_get0 (kd58 rfl) (by decide) rfl g rfl ?_
    obtain ⟨g, h⟩ := h
    refine r_callVV (d' := d - 1) (by omega) (kd58 rfl) (by decide) rfl rfl rfl rfl (Nat.le_of_ble_eq_true rfl) rfl L9 (Nat.le_of_ble_eq_true rfl) (Nat.le_of_ble_eq_true rfl) g (Nat.zero_le _) (Nat.zero_le _) rfl rfl rfl (b_Entries_add (by omega) h) (fun M1 h => ?_)
    exact (b_Machine_openInvoked_34 hd h).less (e_sc (List.mem_of_getElem? (i := 1) rfl) (e_sc (List.mem_of_getElem? (i := 2) rfl) e_sn))
/-- TierMill$Tiers.clearFor(LTierMill$Program;)V -/
theorem kd84 {pc : Nat} {q : eI} (h : e_d84.lookup pc = some q) : e_dec 84 pc = some q := h
theorem L84 : (e_m 84).2.2.1 = 2 := rfl
theorem R84 : (e_m 84).2.2.2.1 = none := rfl
def w_Tiers_clearFor (kc ks : Nat) (l0 : Nat) (l1 : Nat) (M : eM) (Q : eM → Prop) : Prop := e_ob M l0 9 ∧ ∀ M1 : eM, M1 = e_sr M l0 12 l1 → e_ob M1 l0 9 ∧ e_ob M1 l0 9 ∧ e_ob M1 (gr M1 l0 12) 6 ∧ ∃ kc3 ks4 : Nat, kc3 ≤ kc ∧ ks4 ≤ ks ∧ w_Arr_fill_234 kc3 ks4 (gr M1 l0 5) 0 ((gi M1 (gr M1 l0 12) 14) * 8) 0 M1 (fun (M2 : eM) => Q M2)
theorem b_Tiers_clearFor {d : Nat} {kc ks : Nat} {l0 : Nat} {l1 : Nat} {M : eM} {Q : eM → Prop} (hd : 2 ≤ d) (h : w_Tiers_clearFor kc ks l0 l1 M Q) : e_CV 84 d kc ks [.ref l0, .ref l1] M Q := by
  unfold w_Tiers_clearFor at h
  show e_E 84 d kc ks 0 [(0, .ref l0), (1, .ref l1)] [] M (e_QV Q)
  refine r_aload_n (kd84 rfl) rfl rfl ?_
  refine r_aload_n (kd84 rfl) rfl rfl ?_
  obtain ⟨g, h⟩ := h
  have h := h _ rfl
  refine r_put2 (kd84 rfl) (by decide) rfl g rfl ?_
  refine r_aload_n (kd84 rfl) rfl rfl ?_
  obtain ⟨g, h⟩ := h
  refine r_get2 (kd84 rfl) (by decide) rfl g rfl ?_
  refine r_iconst (kd84 rfl) (y := 0) (by decide) rfl ?_
  refine r_aload_n (kd84 rfl) rfl rfl ?_
  obtain ⟨g, h⟩ := h
  refine r_get2 (kd84 rfl) (by decide) rfl g rfl ?_
  obtain ⟨g, h⟩ := h
  refine r_get0 (kd84 rfl) (by decide) rfl g rfl ?_
  refine r_bipush (kd84 rfl) (y := 8) (by decide) rfl ?_
  refine r_imul (kd84 rfl) rfl ?_
  refine r_iconst (kd84 rfl) (y := 0) (by decide) rfl ?_
  obtain ⟨mc, ms, q1, q2, h⟩ := h
  refine r_callSV (d' := d - 1) (by omega) (kd84 rfl) (by decide) rfl rfl rfl rfl (Nat.le_of_ble_eq_true rfl) rfl L234 (Nat.le_of_ble_eq_true rfl) (Nat.le_of_ble_eq_true rfl) q1 q2 rfl rfl rfl (b_Arr_fill_234 (by omega) h) (fun M1 h => ?_)
  exact r_return (kd84 rfl) R84 h
/-- TierMill$Machine.begin(LTierMill$Program;I)V -/
theorem kd38 {pc : Nat} {q : eI} (h : e_d38.lookup pc = some q) : e_dec 38 pc = some q := h
theorem L38 : (e_m 38).2.2.1 = 3 := rfl
theorem R38 : (e_m 38).2.2.2.1 = none := rfl
def w_Machine_begin (kc ks : Nat) (l0 : Nat) (l1 : Nat) (l2 : Int32) (M : eM) (Q : eM → Prop) : Prop := e_ob M l0 4 ∧ ∀ M1 : eM, M1 = e_sr M l0 14 l1 → e_ob M1 l0 4 ∧ ∀ M2 : eM, M2 = e_si M1 l0 6 1 → e_ob M2 l0 4 ∧ e_ob M2 (gr M2 l0 1) 3 ∧ w_Heap_clear (gr M2 l0 1) l2 M2 (fun (M3 : eM) => e_ob M3 l0 4 ∧ e_ob M3 l0 4 ∧ e_ob M3 (gr M3 l0 2) 9 ∧ ∃ kc5 ks6 : Nat, kc5 ≤ kc ∧ ks6 ≤ ks ∧ w_Tiers_clearFor kc5 ks6 (gr M3 l0 2) (gr M3 l0 14) M3 (fun (M4 : eM) => e_ob M4 l0 4 ∧ ∃ kc8 ks9 : Nat, kc8 ≤ (kc - kc5) ∧ ks9 ≤ (ks - ks6) ∧ w_Machine_openInvoked kc8 ks9 l0 0 M4 (fun (M7 : eM) => Q M7)))
theorem b_Machine_begin {d : Nat} {kc ks : Nat} {l0 : Nat} {l1 : Nat} {l2 : Int32} {M : eM} {Q : eM → Prop} (hd : 10 ≤ d) (h : w_Machine_begin kc ks l0 l1 l2 M Q) : e_CV 38 d kc ks [.ref l0, .ref l1, .int l2] M Q := by
  unfold w_Machine_begin at h
  show e_E 38 d kc ks 0 [(0, .ref l0), (1, .ref l1), (2, .int l2)] [] M (e_QV Q)
  refine r_aload_n (kd38 rfl) rfl rfl ?_
  refine r_aload_n (kd38 rfl) rfl rfl ?_
  obtain ⟨g, h⟩ := h
  have h := h _ rfl
  refine r_put2 (kd38 rfl) (by decide) rfl g rfl ?_
  refine r_aload_n (kd38 rfl) rfl rfl ?_
  refine r_iconst (kd38 rfl) (y := 1) (by decide) rfl ?_
  obtain ⟨g, h⟩ := h
  have h := h _ rfl
  refine r_put0 (kd38 rfl) (by decide) rfl g rfl ?_
  refine r_aload_n (kd38 rfl) rfl rfl ?_
  obtain ⟨g, h⟩ := h
  refine r_get2 (kd38 rfl) (by decide) rfl g rfl ?_
  refine r_iload_n (kd38 rfl) rfl rfl ?_
  obtain ⟨g, h⟩ := h
  refine r_callVV (d' := d - 1) (by omega) (kd38 rfl) (by decide) rfl rfl rfl rfl (Nat.le_of_ble_eq_true rfl) rfl L23 (Nat.le_of_ble_eq_true rfl) (Nat.le_of_ble_eq_true rfl) g (Nat.zero_le _) (Nat.zero_le _) rfl rfl rfl (b_Heap_clear (by omega) h) (fun M1 h => ?_)
  refine r_aload_n (kd38 rfl) rfl rfl ?_
  obtain ⟨g, h⟩ := h
  refine r_get2 (kd38 rfl) (by decide) rfl g rfl ?_
  refine r_aload_n (kd38 rfl) rfl rfl ?_
  obtain ⟨g, h⟩ := h
  refine r_get2 (kd38 rfl) (by decide) rfl g rfl ?_
  obtain ⟨g, h⟩ := h
  obtain ⟨mc, ms, q1, q2, h⟩ := h
  refine r_callVV (d' := d - 1) (by omega) (kd38 rfl) (by decide) rfl rfl rfl rfl (Nat.le_of_ble_eq_true rfl) rfl L84 (Nat.le_of_ble_eq_true rfl) (Nat.le_of_ble_eq_true rfl) g q1 q2 rfl rfl rfl (b_Tiers_clearFor (by omega) h) (fun M1 h => ?_)
  refine r_aload_n (kd38 rfl) rfl rfl ?_
  refine r_iconst (kd38 rfl) (y := 0) (by decide) rfl ?_
  obtain ⟨g, h⟩ := h
  obtain ⟨mc, ms, q1, q2, h⟩ := h
  refine r_callVV (d' := d - 1) (by omega) (kd38 rfl) (by decide) rfl rfl rfl rfl (Nat.le_of_ble_eq_true rfl) rfl L58 (Nat.le_of_ble_eq_true rfl) (Nat.le_of_ble_eq_true rfl) g q1 q2 rfl rfl rfl (b_Machine_openInvoked (by omega) h) (fun M1 h => ?_)
  exact r_return (kd38 rfl) R38 h
/-- TierMill$Machine.seen(IZ)I -/
theorem kd39 {pc : Nat} {q : eI} (h : e_d39.lookup pc = some q) : e_dec 39 pc = some q := h
theorem L39 : (e_m 39).2.2.1 = 3 := rfl
theorem R39 : (e_m 39).2.2.2.1 = (some .int) := rfl
def w_Machine_seen_20 (s0 : Int32) (M : eM) (Q : Int32 → eM → Prop) : Prop := Q s0 M
theorem b_Machine_seen_20 {d : Nat} {s0 : Int32} {M : eM} {Q : Int32 → eM → Prop} (hd : 1 ≤ d) (h : w_Machine_seen_20 s0 M Q ) : e_E 39 d 0 0 20 [] [.int s0] M (e_QI Q) := by
  unfold w_Machine_seen_20 at h
  exact r_ireturn (kd39 rfl) R39 h
def w_Machine_seen_8 (l1 : Int32) (M : eM) (Q : Int32 → eM → Prop) : Prop := w_Machine_seen_20 l1 M Q
theorem b_Machine_seen_8 {d : Nat} {l1 : Int32} {M : eM} {Q : Int32 → eM → Prop} (hd : 1 ≤ d) (h : w_Machine_seen_8 l1 M Q ) : e_E 39 d 0 0 8 [(1, .int l1)] [] M (e_QI Q) := by
  unfold w_Machine_seen_8 at h
  refine r_iload_n (kd39 rfl) rfl rfl ?_
  refine r_goto (kd39 rfl) ?_
  exact (b_Machine_seen_20 hd h).less e_sn
def w_Machine_seen (l0 : Nat) (l1 : Int32) (l2 : Int32) (M : eM) (Q : Int32 → eM → Prop) : Prop := (¬ l2 = 0 → w_Machine_seen_8 l1 M Q) ∧ (l2 = 0 → (¬ l1 = 0 → e_ob M l0 4 ∧ e_ob M (gr M l0 1) 3 ∧ w_Heap_numberOf (gr M l0 1) l1 M (fun (v2 : Int32) (M1 : eM) => w_Machine_seen_20 v2 M1 Q)) ∧ (l1 = 0 → w_Machine_seen_8 l1 M Q))
theorem b_Machine_seen {d : Nat} {l0 : Nat} {l1 : Int32} {l2 : Int32} {M : eM} {Q : Int32 → eM → Prop} (hd : 1 ≤ d) (h : w_Machine_seen l0 l1 l2 M Q) : e_CI 39 d 0 0 [.ref l0, .int l1, .int l2] M Q := by
  unfold w_Machine_seen at h
  show e_E 39 d 0 0 0 [(0, .ref l0), (1, .int l1), (2, .int l2)] [] M (e_QI Q)
  refine r_iload_n (kd39 rfl) rfl rfl ?_
  refine r_if_ne (kd39 rfl) rfl (fun c => ?_) (fun c => ?_)
  · have h := h.1 c
    exact (b_Machine_seen_8 hd h).less (e_sc (List.mem_of_getElem? (i := 1) rfl) e_sn)
  · have h := h.2 c
    refine r_iload_n (kd39 rfl) rfl rfl ?_
    refine r_if_ne (kd39 rfl) rfl (fun c => ?_) (fun c => ?_)
    · have h := h.1 c
      refine r_aload_n (kd39 rfl) rfl rfl ?_
      obtain ⟨g, h⟩ := h
      refine r_get2 (kd39 rfl) (by decide) rfl g rfl ?_
      refine r_iload_n (kd39 rfl) rfl rfl ?_
      obtain ⟨g, h⟩ := h
      refine r_callVI (d' := d - 1) (by omega) (kd39 rfl) (by decide) rfl rfl rfl rfl (Nat.le_of_ble_eq_true rfl) rfl L25 (Nat.le_of_ble_eq_true rfl) (Nat.le_of_ble_eq_true rfl) g (Nat.zero_le _) (Nat.zero_le _) rfl rfl rfl (b_Heap_numberOf (by omega) h) (fun x1 M1 h => ?_)
      exact (b_Machine_seen_20 hd h).less e_sn
    · have h := h.2 c
      exact (b_Machine_seen_8 hd h).less (e_sc (List.mem_of_getElem? (i := 1) rfl) e_sn)
/-- TierMill$Machine.localNamed()I -/
theorem kd43 {pc : Nat} {q : eI} (h : e_d43.lookup pc = some q) : e_dec 43 pc = some q := h
theorem L43 : (e_m 43).2.2.1 = 1 := rfl
theorem R43 : (e_m 43).2.2.2.1 = (some .int) := rfl
def w_Machine_localNamed (l0 : Nat) (M : eM) (Q : Int32 → eM → Prop) : Prop := e_ob M l0 4 ∧ e_ob M (gr M l0 0) 2 ∧ e_ob M l0 4 ∧ e_ob M (gr M l0 14) 6 ∧ e_ob M l0 4 ∧ e_ai M (gr M (gr M l0 14) 0) ((gi M l0 15) + 1) ∧ Q ((((gi M (gr M l0 0) 0) - 1) * 16) + (gi M (gr M (gr M l0 14) 0) ((gi M l0 15) + 1).toNatClampNeg)) M
theorem b_Machine_localNamed {d : Nat} {l0 : Nat} {M : eM} {Q : Int32 → eM → Prop} (hd : 0 ≤ d) (h : w_Machine_localNamed l0 M Q) : e_CI 43 d 0 0 [.ref l0] M Q := by
  unfold w_Machine_localNamed at h
  show e_E 43 d 0 0 0 [(0, .ref l0)] [] M (e_QI Q)
  refine r_aload_n (kd43 rfl) rfl rfl ?_
  obtain ⟨g, h⟩ := h
  refine r_get2 (kd43 rfl) (by decide) rfl g rfl ?_
  obtain ⟨g, h⟩ := h
  refine r_get0 (kd43 rfl) (by decide) rfl g rfl ?_
  refine r_iconst (kd43 rfl) (y := 1) (by decide) rfl ?_
  refine r_isub (kd43 rfl) rfl ?_
  refine r_bipush (kd43 rfl) (y := 16) (by decide) rfl ?_
  refine r_imul (kd43 rfl) rfl ?_
  refine r_aload_n (kd43 rfl) rfl rfl ?_
  obtain ⟨g, h⟩ := h
  refine r_get2 (kd43 rfl) (by decide) rfl g rfl ?_
  obtain ⟨g, h⟩ := h
  refine r_get2 (kd43 rfl) (by decide) rfl g rfl ?_
  refine r_aload_n (kd43 rfl) rfl rfl ?_
  obtain ⟨g, h⟩ := h
  refine r_get0 (kd43 rfl) (by decide) rfl g rfl ?_
  refine r_iconst (kd43 rfl) (y := 1) (by decide) rfl ?_
  refine r_iadd (kd43 rfl) rfl ?_
  obtain ⟨g, h⟩ := h
  refine r_iaload (kd43 rfl) g rfl ?_
  refine r_iadd (kd43 rfl) rfl ?_
  exact r_ireturn (kd43 rfl) R43 h
/-- TierMill$Machine.swap()V -/
theorem kd44 {pc : Nat} {q : eI} (h : e_d44.lookup pc = some q) : e_dec 44 pc = some q := h
theorem L44 : (e_m 44).2.2.1 = 3 := rfl
theorem R44 : (e_m 44).2.2.2.1 = none := rfl
def w_Machine_swap (l0 : Nat) (M : eM) (Q : eM → Prop) : Prop := e_ob M l0 4 ∧ e_ob M (gr M l0 0) 2 ∧ w_Frames_pop (gr M l0 0) M (fun (v2 : Int32) (M1 : eM) => e_ob M1 l0 4 ∧ e_ob M1 (gr M1 l0 0) 2 ∧ w_Frames_pop (gr M1 l0 0) M1 (fun (v4 : Int32) (M3 : eM) => e_ob M3 l0 4 ∧ e_ob M3 (gr M3 l0 0) 2 ∧ w_Frames_push (gr M3 l0 0) v2 M3 (fun (M5 : eM) => e_ob M5 l0 4 ∧ e_ob M5 (gr M5 l0 0) 2 ∧ w_Frames_push (gr M5 l0 0) v4 M5 (fun (M6 : eM) => Q M6))))
theorem b_Machine_swap {d : Nat} {l0 : Nat} {M : eM} {Q : eM → Prop} (hd : 2 ≤ d) (h : w_Machine_swap l0 M Q) : e_CV 44 d 0 0 [.ref l0] M Q := by
  unfold w_Machine_swap at h
  show e_E 44 d 0 0 0 [(0, .ref l0)] [] M (e_QV Q)
  refine r_aload_n (kd44 rfl) rfl rfl ?_
  obtain ⟨g, h⟩ := h
  refine r_get2 (kd44 rfl) (by decide) rfl g rfl ?_
  obtain ⟨g, h⟩ := h
  refine r_callVI (d' := d - 1) (by omega) (kd44 rfl) (by decide) rfl rfl rfl rfl (Nat.le_of_ble_eq_true rfl) rfl L17 (Nat.le_of_ble_eq_true rfl) (Nat.le_of_ble_eq_true rfl) g (Nat.zero_le _) (Nat.zero_le _) rfl rfl rfl (b_Frames_pop (by omega) h) (fun x1 M1 h => ?_)
  refine r_istore_n (kd44 rfl) L44 (by decide) rfl rfl ?_
  refine r_aload_n (kd44 rfl) rfl rfl ?_
  obtain ⟨g, h⟩ := h
  refine r_get2 (kd44 rfl) (by decide) rfl g rfl ?_
  obtain ⟨g, h⟩ := h
  refine r_callVI (d' := d - 1) (by omega) (kd44 rfl) (by decide) rfl rfl rfl rfl (Nat.le_of_ble_eq_true rfl) rfl L17 (Nat.le_of_ble_eq_true rfl) (Nat.le_of_ble_eq_true rfl) g (Nat.zero_le _) (Nat.zero_le _) rfl rfl rfl (b_Frames_pop (by omega) h) (fun x1 M1 h => ?_)
  refine r_istore_n (kd44 rfl) L44 (by decide) rfl rfl ?_
  refine r_aload_n (kd44 rfl) rfl rfl ?_
  obtain ⟨g, h⟩ := h
  refine r_get2 (kd44 rfl) (by decide) rfl g rfl ?_
  refine r_iload_n (kd44 rfl) rfl rfl ?_
  obtain ⟨g, h⟩ := h
  refine r_callVV (d' := d - 1) (by omega) (kd44 rfl) (by decide) rfl rfl rfl rfl (Nat.le_of_ble_eq_true rfl) rfl L18 (Nat.le_of_ble_eq_true rfl) (Nat.le_of_ble_eq_true rfl) g (Nat.zero_le _) (Nat.zero_le _) rfl rfl rfl (b_Frames_push (by omega) h) (fun M1 h => ?_)
  refine r_aload_n (kd44 rfl) rfl rfl ?_
  obtain ⟨g, h⟩ := h
  refine r_get2 (kd44 rfl) (by decide) rfl g rfl ?_
  refine r_iload_n (kd44 rfl) rfl rfl ?_
  obtain ⟨g, h⟩ := h
  refine r_callVV (d' := d - 1) (by omega) (kd44 rfl) (by decide) rfl rfl rfl rfl (Nat.le_of_ble_eq_true rfl) rfl L18 (Nat.le_of_ble_eq_true rfl) (Nat.le_of_ble_eq_true rfl) g (Nat.zero_le _) (Nat.zero_le _) rfl rfl rfl (b_Frames_push (by omega) h) (fun M1 h => ?_)
  exact r_return (kd44 rfl) R44 h
/-- TierMill$Machine.move(I)I -/
theorem kd42 {pc : Nat} {q : eI} (h : e_d42.lookup pc = some q) : e_dec 42 pc = some q := h
theorem L42 : (e_m 42).2.2.1 = 2 := rfl
theorem R42 : (e_m 42).2.2.2.1 = (some .int) := rfl
def w_Machine_move_237 (l0 : Nat) (l1 : Int32) (M : eM) (Q : Int32 → eM → Prop) : Prop := e_ob M l0 4 ∧ e_ai M 2 l1 ∧ e_ob M (gr M l0 0) 2 ∧ w_Frames_goOn (gr M l0 0) (gi M 2 l1.toNatClampNeg) M (fun (M21 : eM) => Q (0 : Int32) M21)
theorem b_Machine_move_237 {d : Nat} {l0 : Nat} {l1 : Int32} {M : eM} {Q : Int32 → eM → Prop} (hd : 3 ≤ d) (h : w_Machine_move_237 l0 l1 M Q ) : e_E 42 d 0 0 237 [(0, .ref l0), (1, .int l1)] [] M (e_QI Q) := by
  unfold w_Machine_move_237 at h
  refine r_aload_n (kd42 rfl) rfl rfl ?_
  obtain ⟨g, h⟩ := h
  refine r_get2 (kd42 rfl) (by decide) rfl g rfl ?_
  refine r_getstatic (kd42 rfl) (by decide) rfl ?_
  refine r_iload_n (kd42 rfl) rfl rfl ?_
  obtain ⟨g, h⟩ := h
  refine r_iaload (kd42 rfl) g rfl ?_
  obtain ⟨g, h⟩ := h
  refine r_callVV (d' := d - 1) (by omega) (kd42 rfl) (by decide) rfl rfl rfl rfl (Nat.le_of_ble_eq_true rfl) rfl L19 (Nat.le_of_ble_eq_true rfl) (Nat.le_of_ble_eq_true rfl) g (Nat.zero_le _) (Nat.zero_le _) rfl rfl rfl (b_Frames_goOn (by omega) h) (fun M1 h => ?_)
  refine r_iconst (kd42 rfl) (y := 0) (by decide) rfl ?_
  exact r_ireturn (kd42 rfl) R42 h
def w_Machine_move (l0 : Nat) (l1 : Int32) (M : eM) (Q : Int32 → eM → Prop) : Prop := (l1 = 0 → e_ob M l0 4 ∧ e_ob M l0 4 ∧ e_ob M (gr M l0 14) 6 ∧ e_ob M l0 4 ∧ e_ai M (gr M (gr M l0 14) 0) ((gi M l0 15) + 1) ∧ e_ob M (gr M l0 0) 2 ∧ w_Frames_push (gr M l0 0) ((gi M (gr M (gr M l0 14) 0) ((gi M l0 15) + 1).toNatClampNeg).toInt8.toInt32) M (fun (M1 : eM) => w_Machine_move_237 l0 l1 M1 Q)) ∧ (¬ l1 = 0 → (l1 = 1 → e_ob M l0 4 ∧ e_ob M l0 4 ∧ e_ob M (gr M l0 14) 6 ∧ e_ob M l0 4 ∧ e_ai M (gr M (gr M l0 14) 0) ((gi M l0 15) + 1) ∧ e_ob M l0 4 ∧ e_ob M (gr M l0 14) 6 ∧ e_ob M l0 4 ∧ e_ai M (gr M (gr M l0 14) 0) ((gi M l0 15) + 2) ∧ e_ob M (gr M l0 0) 2 ∧ w_Frames_push (gr M l0 0) ((((gi M (gr M (gr M l0 14) 0) ((gi M l0 15) + 1).toNatClampNeg) <<< (8 &&& 31)) ||| (gi M (gr M (gr M l0 14) 0) ((gi M l0 15) + 2).toNatClampNeg)).toInt16.toInt32) M (fun (M2 : eM) => w_Machine_move_237 l0 l1 M2 Q)) ∧ (¬ l1 = 1 → (l1 = 2 → e_ob M l0 4 ∧ e_ob M (gr M l0 0) 2 ∧ w_Frames_push (gr M l0 0) 0 M (fun (M3 : eM) => w_Machine_move_237 l0 l1 M3 Q)) ∧ (¬ l1 = 2 → (l1 = 3 → e_ob M l0 4 ∧ e_ob M l0 4 ∧ e_ob M (gr M l0 0) 2 ∧ e_ob M l0 4 ∧ w_Machine_localNamed l0 M (fun (v5 : Int32) (M4 : eM) => e_ai M4 (gr M (gr M l0 0) 7) v5 ∧ e_ob M4 (gr M l0 0) 2 ∧ w_Frames_push (gr M l0 0) (gi M4 (gr M (gr M l0 0) 7) v5.toNatClampNeg) M4 (fun (M6 : eM) => w_Machine_move_237 l0 l1 M6 Q))) ∧ (¬ l1 = 3 → (l1 = 4 → e_ob M l0 4 ∧ e_ob M (gr M l0 0) 2 ∧ e_ob M l0 4 ∧ w_Machine_localNamed l0 M (fun (v8 : Int32) (M7 : eM) => e_ob M7 l0 4 ∧ e_ob M7 (gr M7 l0 0) 2 ∧ w_Frames_pop (gr M7 l0 0) M7 (fun (v10 : Int32) (M9 : eM) => e_ar M9 (gr M (gr M l0 0) 7) 20 v8 ∧ ∀ M11 : eM, M11 = e_si M9 (gr M (gr M l0 0) 7) v8.toNatClampNeg v10 → w_Machine_move_237 l0 l1 M11 Q))) ∧ (¬ l1 = 4 → (l1 = 5 → e_ob M l0 4 ∧ e_ob M (gr M l0 0) 2 ∧ w_Frames_pop (gr M l0 0) M (fun (v13 : Int32) (M12 : eM) => w_Machine_move_237 l0 l1 M12 Q)) ∧ (¬ l1 = 5 → (l1 = 6 → e_ob M l0 4 ∧ e_ob M l0 4 ∧ e_ob M (gr M l0 0) 2 ∧ w_Frames_peek (gr M l0 0) 0 M (fun (v15 : Int32) (M14 : eM) => e_ob M14 (gr M l0 0) 2 ∧ w_Frames_push (gr M l0 0) v15 M14 (fun (M16 : eM) => w_Machine_move_237 l0 l1 M16 Q))) ∧ (¬ l1 = 6 → (l1 = 7 → e_ob M l0 4 ∧ w_Machine_swap l0 M (fun (M17 : eM) => w_Machine_move_237 l0 l1 M17 Q)) ∧ (¬ l1 = 7 → e_ob M l0 4 ∧ e_ob M (gr M l0 0) 2 ∧ e_ob M l0 4 ∧ w_Machine_localNamed l0 M (fun (v19 : Int32) (M18 : eM) => e_ai M18 (gr M (gr M l0 0) 7) v19 ∧ e_ob M18 l0 4 ∧ e_ob M18 (gr M18 l0 14) 6 ∧ e_ob M18 l0 4 ∧ e_ai M18 (gr M18 (gr M18 l0 14) 0) ((gi M18 l0 15) + 2) ∧ e_ar M18 (gr M (gr M l0 0) 7) 20 v19 ∧ ∀ M20 : eM, M20 = e_si M18 (gr M (gr M l0 0) 7) v19.toNatClampNeg ((gi M18 (gr M (gr M l0 0) 7) v19.toNatClampNeg) + ((gi M18 (gr M18 (gr M18 l0 14) 0) ((gi M18 l0 15) + 2).toNatClampNeg).toInt8.toInt32)) → w_Machine_move_237 l0 l1 M20 Q)))))))))
theorem b_Machine_move {d : Nat} {l0 : Nat} {l1 : Int32} {M : eM} {Q : Int32 → eM → Prop} (hd : 3 ≤ d) (h : w_Machine_move l0 l1 M Q) : e_CI 42 d 0 0 [.ref l0, .int l1] M Q := by
  unfold w_Machine_move at h
  show e_E 42 d 0 0 0 [(0, .ref l0), (1, .int l1)] [] M (e_QI Q)
  refine r_iload_n (kd42 rfl) rfl rfl ?_
  refine r_tableswitch (kd42 rfl) (u := 207) (qs := [(0, 48), (1, 73), (2, 116), (3, 127), (4, 149), (5, 171), (6, 182), (7, 200)]) rfl rfl rfl (by decide) ?_
  refine ⟨fun c => ?_, fun c => ?_⟩
  · have h := h.1 c
    refine r_aload_n (kd42 rfl) rfl rfl ?_
    obtain ⟨g, h⟩ := h
    refine r_get2 (kd42 rfl) (by decide) rfl g rfl ?_
    refine r_aload_n (kd42 rfl) rfl rfl ?_
    obtain ⟨g, h⟩ := h
    refine r_get2 (kd42 rfl) (by decide) rfl g rfl ?_
    obtain ⟨g, h⟩ := h
    refine r_get2 (kd42 rfl) (by decide) rfl g rfl ?_
    refine r_aload_n (kd42 rfl) rfl rfl ?_
    obtain ⟨g, h⟩ := h
    refine r_get0 (kd42 rfl) (by decide) rfl g rfl ?_
    refine r_iconst (kd42 rfl) (y := 1) (by decide) rfl ?_
    refine r_iadd (kd42 rfl) rfl ?_
    obtain ⟨g, h⟩ := h
    refine r_iaload (kd42 rfl) g rfl ?_
    refine r_i2b (kd42 rfl) rfl ?_
    obtain ⟨g, h⟩ := h
    refine r_callVV (d' := d - 1) (by omega) (kd42 rfl) (by decide) rfl rfl rfl rfl (Nat.le_of_ble_eq_true rfl) rfl L18 (Nat.le_of_ble_eq_true rfl) (Nat.le_of_ble_eq_true rfl) g (Nat.zero_le _) (Nat.zero_le _) rfl rfl rfl (b_Frames_push (by omega) h) (fun M1 h => ?_)
    refine r_goto (kd42 rfl) ?_
    exact (b_Machine_move_237 hd h).less (e_sc (List.mem_of_getElem? (i := 0) rfl) (e_sc (List.mem_of_getElem? (i := 1) rfl) e_sn))
  have h := h.2 c
  refine ⟨fun c => ?_, fun c => ?_⟩
  · have h := h.1 c
    refine r_aload_n (kd42 rfl) rfl rfl ?_
    obtain ⟨g, h⟩ := h
    refine r_get2 (kd42 rfl) (by decide) rfl g rfl ?_
    refine r_aload_n (kd42 rfl) rfl rfl ?_
    obtain ⟨g, h⟩ := h
    refine r_get2 (kd42 rfl) (by decide) rfl g rfl ?_
    obtain ⟨g, h⟩ := h
    refine r_get2 (kd42 rfl) (by decide) rfl g rfl ?_
    refine r_aload_n (kd42 rfl) rfl rfl ?_
    obtain ⟨g, h⟩ := h
    refine r_get0 (kd42 rfl) (by decide) rfl g rfl ?_
    refine r_iconst (kd42 rfl) (y := 1) (by decide) rfl ?_
    refine r_iadd (kd42 rfl) rfl ?_
    obtain ⟨g, h⟩ := h
    refine r_iaload (kd42 rfl) g rfl ?_
    refine r_bipush (kd42 rfl) (y := 8) (by decide) rfl ?_
    refine r_ishl (kd42 rfl) rfl ?_
    refine r_aload_n (kd42 rfl) rfl rfl ?_
    obtain ⟨g, h⟩ := h
    refine r_get2 (kd42 rfl) (by decide) rfl g rfl ?_
    obtain ⟨g, h⟩ := h
    refine r_get2 (kd42 rfl) (by decide) rfl g rfl ?_
    refine r_aload_n (kd42 rfl) rfl rfl ?_
    obtain ⟨g, h⟩ := h
    refine r_get0 (kd42 rfl) (by decide) rfl g rfl ?_
    refine r_iconst (kd42 rfl) (y := 2) (by decide) rfl ?_
    refine r_iadd (kd42 rfl) rfl ?_
    obtain ⟨g, h⟩ := h
    refine r_iaload (kd42 rfl) g rfl ?_
    refine r_ior (kd42 rfl) rfl ?_
    refine r_i2s (kd42 rfl) rfl ?_
    obtain ⟨g, h⟩ := h
    refine r_callVV (d' := d - 1) (by omega) (kd42 rfl) (by decide) rfl rfl rfl rfl (Nat.le_of_ble_eq_true rfl) rfl L18 (Nat.le_of_ble_eq_true rfl) (Nat.le_of_ble_eq_true rfl) g (Nat.zero_le _) (Nat.zero_le _) rfl rfl rfl (b_Frames_push (by omega) h) (fun M1 h => ?_)
    refine r_goto (kd42 rfl) ?_
    exact (b_Machine_move_237 hd h).less (e_sc (List.mem_of_getElem? (i := 0) rfl) (e_sc (List.mem_of_getElem? (i := 1) rfl) e_sn))
  have h := h.2 c
  refine ⟨fun c => ?_, fun c => ?_⟩
  · have h := h.1 c
    refine r_aload_n (kd42 rfl) rfl rfl ?_
    obtain ⟨g, h⟩ := h
    refine r_get2 (kd42 rfl) (by decide) rfl g rfl ?_
    refine r_iconst (kd42 rfl) (y := 0) (by decide) rfl ?_
    obtain ⟨g, h⟩ := h
    refine r_callVV (d' := d - 1) (by omega) (kd42 rfl) (by decide) rfl rfl rfl rfl (Nat.le_of_ble_eq_true rfl) rfl L18 (Nat.le_of_ble_eq_true rfl) (Nat.le_of_ble_eq_true rfl) g (Nat.zero_le _) (Nat.zero_le _) rfl rfl rfl (b_Frames_push (by omega) h) (fun M1 h => ?_)
    refine r_goto (kd42 rfl) ?_
    exact (b_Machine_move_237 hd h).less (e_sc (List.mem_of_getElem? (i := 0) rfl) (e_sc (List.mem_of_getElem? (i := 1) rfl) e_sn))
  have h := h.2 c
  refine ⟨fun c => ?_, fun c => ?_⟩
  · have h := h.1 c
    refine r_aload_n (kd42 rfl) rfl rfl ?_
    obtain ⟨g, h⟩ := h
    refine r_get2 (kd42 rfl) (by decide) rfl g rfl ?_
    refine r_aload_n (kd42 rfl) rfl rfl ?_
    obtain ⟨g, h⟩ := h
    refine r_get2 (kd42 rfl) (by decide) rfl g rfl ?_
    obtain ⟨g, h⟩ := h
    refine r_get2 (kd42 rfl) (by decide) rfl g rfl ?_
    refine r_aload_n (kd42 rfl) rfl rfl ?_
    obtain ⟨g, h⟩ := h
    refine r_callVI (d' := d - 1) (by omega) (kd42 rfl) (by decide) rfl rfl rfl rfl (Nat.le_of_ble_eq_true rfl) rfl L43 (Nat.le_of_ble_eq_true rfl) (Nat.le_of_ble_eq_true rfl) g (Nat.zero_le _) (Nat.zero_le _) rfl rfl rfl (b_Machine_localNamed (by omega) h) (fun x1 M1 h => ?_)
    obtain ⟨g, h⟩ := h
    refine r_iaload (kd42 rfl) g rfl ?_
    obtain ⟨g, h⟩ := h
    refine r_callVV (d' := d - 1) (by omega) (kd42 rfl) (by decide) rfl rfl rfl rfl (Nat.le_of_ble_eq_true rfl) rfl L18 (Nat.le_of_ble_eq_true rfl) (Nat.le_of_ble_eq_true rfl) g (Nat.zero_le _) (Nat.zero_le _) rfl rfl rfl (b_Frames_push (by omega) h) (fun M1 h => ?_)
    refine r_goto (kd42 rfl) ?_
    exact (b_Machine_move_237 hd h).less (e_sc (List.mem_of_getElem? (i := 0) rfl) (e_sc (List.mem_of_getElem? (i := 1) rfl) e_sn))
  have h := h.2 c
  refine ⟨fun c => ?_, fun c => ?_⟩
  · have h := h.1 c
    refine r_aload_n (kd42 rfl) rfl rfl ?_
    obtain ⟨g, h⟩ := h
    refine r_get2 (kd42 rfl) (by decide) rfl g rfl ?_
    obtain ⟨g, h⟩ := h
    refine r_get2 (kd42 rfl) (by decide) rfl g rfl ?_
    refine r_aload_n (kd42 rfl) rfl rfl ?_
    obtain ⟨g, h⟩ := h
    refine r_callVI (d' := d - 1) (by omega) (kd42 rfl) (by decide) rfl rfl rfl rfl (Nat.le_of_ble_eq_true rfl) rfl L43 (Nat.le_of_ble_eq_true rfl) (Nat.le_of_ble_eq_true rfl) g (Nat.zero_le _) (Nat.zero_le _) rfl rfl rfl (b_Machine_localNamed (by omega) h) (fun x1 M1 h => ?_)
    refine r_aload_n (kd42 rfl) rfl rfl ?_
    obtain ⟨g, h⟩ := h
    refine r_get2 (kd42 rfl) (by decide) rfl g rfl ?_
    obtain ⟨g, h⟩ := h
    refine r_callVI (d' := d - 1) (by omega) (kd42 rfl) (by decide) rfl rfl rfl rfl (Nat.le_of_ble_eq_true rfl) rfl L17 (Nat.le_of_ble_eq_true rfl) (Nat.le_of_ble_eq_true rfl) g (Nat.zero_le _) (Nat.zero_le _) rfl rfl rfl (b_Frames_pop (by omega) h) (fun x1 M1 h => ?_)
    obtain ⟨g, h⟩ := h
    have h := h _ rfl
    refine r_iastore (kd42 rfl) g rfl ?_
    refine r_goto (kd42 rfl) ?_
    exact (b_Machine_move_237 hd h).less (e_sc (List.mem_of_getElem? (i := 0) rfl) (e_sc (List.mem_of_getElem? (i := 1) rfl) e_sn))
  have h := h.2 c
  refine ⟨fun c => ?_, fun c => ?_⟩
  · have h := h.1 c
    refine r_aload_n (kd42 rfl) rfl rfl ?_
    obtain ⟨g, h⟩ := h
    refine r_get2 (kd42 rfl) (by decide) rfl g rfl ?_
    obtain ⟨g, h⟩ := h
    refine r_callVI (d' := d - 1) (by omega) (kd42 rfl) (by decide) rfl rfl rfl rfl (Nat.le_of_ble_eq_true rfl) rfl L17 (Nat.le_of_ble_eq_true rfl) (Nat.le_of_ble_eq_true rfl) g (Nat.zero_le _) (Nat.zero_le _) rfl rfl rfl (b_Frames_pop (by omega) h) (fun x1 M1 h => ?_)
    refine r_pop (kd42 rfl) rfl rfl ?_
    refine r_goto (kd42 rfl) ?_
    exact (b_Machine_move_237 hd h).less (e_sc (List.mem_of_getElem? (i := 0) rfl) (e_sc (List.mem_of_getElem? (i := 1) rfl) e_sn))
  have h := h.2 c
  refine ⟨fun c => ?_, fun c => ?_⟩
  · have h := h.1 c
    refine r_aload_n (kd42 rfl) rfl rfl ?_
    obtain ⟨g, h⟩ := h
    refine r_get2 (kd42 rfl) (by decide) rfl g rfl ?_
    refine r_aload_n (kd42 rfl) rfl rfl ?_
    obtain ⟨g, h⟩ := h
    refine r_get2 (kd42 rfl) (by decide) rfl g rfl ?_
    refine r_iconst (kd42 rfl) (y := 0) (by decide) rfl ?_
    obtain ⟨g, h⟩ := h
    refine r_callVI (d' := d - 1) (by omega) (kd42 rfl) (by decide) rfl rfl rfl rfl (Nat.le_of_ble_eq_true rfl) rfl L16 (Nat.le_of_ble_eq_true rfl) (Nat.le_of_ble_eq_true rfl) g (Nat.zero_le _) (Nat.zero_le _) rfl rfl rfl (b_Frames_peek (by omega) h) (fun x1 M1 h => ?_)
    obtain ⟨g, h⟩ := h
    refine r_callVV (d' := d - 1) (by omega) (kd42 rfl) (by decide) rfl rfl rfl rfl (Nat.le_of_ble_eq_true rfl) rfl L18 (Nat.le_of_ble_eq_true rfl) (Nat.le_of_ble_eq_true rfl) g (Nat.zero_le _) (Nat.zero_le _) rfl rfl rfl (b_Frames_push (by omega) h) (fun M1 h => ?_)
    refine r_goto (kd42 rfl) ?_
    exact (b_Machine_move_237 hd h).less (e_sc (List.mem_of_getElem? (i := 0) rfl) (e_sc (List.mem_of_getElem? (i := 1) rfl) e_sn))
  have h := h.2 c
  refine ⟨fun c => ?_, fun c => ?_⟩
  · have h := h.1 c
    refine r_aload_n (kd42 rfl) rfl rfl ?_
    obtain ⟨g, h⟩ := h
    refine r_callVV (d' := d - 1) (by omega) (kd42 rfl) (by decide) rfl rfl rfl rfl (Nat.le_of_ble_eq_true rfl) rfl L44 (Nat.le_of_ble_eq_true rfl) (Nat.le_of_ble_eq_true rfl) g (Nat.zero_le _) (Nat.zero_le _) rfl rfl rfl (b_Machine_swap (by omega) h) (fun M1 h => ?_)
    refine r_goto (kd42 rfl) ?_
    exact (b_Machine_move_237 hd h).less (e_sc (List.mem_of_getElem? (i := 0) rfl) (e_sc (List.mem_of_getElem? (i := 1) rfl) e_sn))
  have h := h.2 c
  show e_E 42 _ _ _ 207 _ _ _ _
  refine r_aload_n (kd42 rfl) rfl rfl ?_
  obtain ⟨g, h⟩ := h
  refine r_get2 (kd42 rfl) (by decide) rfl g rfl ?_
  obtain ⟨g, h⟩ := h
  refine r_get2 (kd42 rfl) (by decide) rfl g rfl ?_
  refine r_aload_n (kd42 rfl) rfl rfl ?_
  obtain ⟨g, h⟩ := h
  refine r_callVI (d' := d - 1) (by omega) (kd42 rfl) (by decide) rfl rfl rfl rfl (Nat.le_of_ble_eq_true rfl) rfl L43 (Nat.le_of_ble_eq_true rfl) (Nat.le_of_ble_eq_true rfl) g (Nat.zero_le _) (Nat.zero_le _) rfl rfl rfl (b_Machine_localNamed (by omega) h) (fun x1 M1 h => ?_)
  refine r_dup2 (kd42 rfl) rfl rfl rfl ?_
  obtain ⟨g, h⟩ := h
  refine r_iaload (kd42 rfl) g rfl ?_
  refine r_aload_n (kd42 rfl) rfl rfl ?_
  obtain ⟨g, h⟩ := h
  refine r_get2 (kd42 rfl) (by decide) rfl g rfl ?_
  obtain ⟨g, h⟩ := h
  refine r_get2 (kd42 rfl) (by decide) rfl g rfl ?_
  refine r_aload_n (kd42 rfl) rfl rfl ?_
  obtain ⟨g, h⟩ := h
  refine r_get0 (kd42 rfl) (by decide) rfl g rfl ?_
  refine r_iconst (kd42 rfl) (y := 2) (by decide) rfl ?_
  refine r_iadd (kd42 rfl) rfl ?_
  obtain ⟨g, h⟩ := h
  refine r_iaload (kd42 rfl) g rfl ?_
  refine r_i2b (kd42 rfl) rfl ?_
  refine r_iadd (kd42 rfl) rfl ?_
  obtain ⟨g, h⟩ := h
  have h := h _ rfl
  refine r_iastore (kd42 rfl) g rfl ?_
  exact (b_Machine_move_237 hd h).less (e_sc (List.mem_of_getElem? (i := 0) rfl) (e_sc (List.mem_of_getElem? (i := 1) rfl) e_sn))
/-- TierMill$Machine.calculated(III)I -/
theorem kd46 {pc : Nat} {q : eI} (h : e_d46.lookup pc = some q) : e_dec 46 pc = some q := h
theorem L46 : (e_m 46).2.2.1 = 3 := rfl
theorem R46 : (e_m 46).2.2.2.1 = (some .int) := rfl
def w_Machine_calculated_79 (s0 : Int32) (M : eM) (Q : Int32 → eM → Prop) : Prop := Q s0 M
theorem b_Machine_calculated_79 {d : Nat} {s0 : Int32} {M : eM} {Q : Int32 → eM → Prop} (hd : 0 ≤ d) (h : w_Machine_calculated_79 s0 M Q ) : e_E 46 d 0 0 79 [] [.int s0] M (e_QI Q) := by
  unfold w_Machine_calculated_79 at h
  exact r_ireturn (kd46 rfl) R46 h
def w_Machine_calculated_91 (s0 : Int32) (M : eM) (Q : Int32 → eM → Prop) : Prop := Q s0 M
theorem b_Machine_calculated_91 {d : Nat} {s0 : Int32} {M : eM} {Q : Int32 → eM → Prop} (hd : 0 ≤ d) (h : w_Machine_calculated_91 s0 M Q ) : e_E 46 d 0 0 91 [] [.int s0] M (e_QI Q) := by
  unfold w_Machine_calculated_91 at h
  exact r_ireturn (kd46 rfl) R46 h
def w_Machine_calculated (l0 : Int32) (l1 : Int32) (l2 : Int32) (M : eM) (Q : Int32 → eM → Prop) : Prop := (l0 = 8 → Q (l1 + l2) M) ∧ (¬ l0 = 8 → (l0 = 9 → Q (l1 - l2) M) ∧ (¬ l0 = 9 → (l0 = 10 → Q (l1 * l2) M) ∧ (¬ l0 = 10 → (l0 = 11 → (¬ l2 = 0 → ¬ l2 = 0 ∧ w_Machine_calculated_79 (l1 / l2) M Q) ∧ (l2 = 0 → w_Machine_calculated_79 0 M Q)) ∧ (¬ l0 = 11 → (l0 = 12 → (¬ l2 = 0 → ¬ l2 = 0 ∧ w_Machine_calculated_91 (l1 - l1 / l2 * l2) M Q) ∧ (l2 = 0 → w_Machine_calculated_91 0 M Q)) ∧ (¬ l0 = 12 → (l0 = 13 → Q (l1 &&& l2) M) ∧ (¬ l0 = 13 → (l0 = 14 → Q (l1 ||| l2) M) ∧ (¬ l0 = 14 → (l0 = 15 → Q (l1 ^^^ l2) M) ∧ (¬ l0 = 15 → (l0 = 16 → Q (l1 <<< (l2 &&& 31)) M) ∧ (¬ l0 = 16 → (l0 = 17 → Q (l1 >>> (l2 &&& 31)) M) ∧ (¬ l0 = 17 → Q ((l1.toUInt32 >>> (l2.toUInt32 &&& Int32.toUInt32 31)).toInt32) M))))))))))
theorem b_Machine_calculated {d : Nat} {l0 : Int32} {l1 : Int32} {l2 : Int32} {M : eM} {Q : Int32 → eM → Prop} (hd : 0 ≤ d) (h : w_Machine_calculated l0 l1 l2 M Q) : e_CI 46 d 0 0 [.int l0, .int l1, .int l2] M Q := by
  unfold w_Machine_calculated at h
  show e_E 46 d 0 0 0 [(0, .int l0), (1, .int l1), (2, .int l2)] [] M (e_QI Q)
  refine r_iload_n (kd46 rfl) rfl rfl ?_
  refine r_tableswitch (kd46 rfl) (u := 112) (qs := [(8, 56), (9, 60), (10, 64), (11, 68), (12, 80), (13, 92), (14, 96), (15, 100), (16, 104), (17, 108)]) rfl rfl rfl (by decide) ?_
  refine ⟨fun c => ?_, fun c => ?_⟩
  · have h := h.1 c
    refine r_iload_n (kd46 rfl) rfl rfl ?_
    refine r_iload_n (kd46 rfl) rfl rfl ?_
    refine r_iadd (kd46 rfl) rfl ?_
    exact r_ireturn (kd46 rfl) R46 h
  have h := h.2 c
  refine ⟨fun c => ?_, fun c => ?_⟩
  · have h := h.1 c
    refine r_iload_n (kd46 rfl) rfl rfl ?_
    refine r_iload_n (kd46 rfl) rfl rfl ?_
    refine r_isub (kd46 rfl) rfl ?_
    exact r_ireturn (kd46 rfl) R46 h
  have h := h.2 c
  refine ⟨fun c => ?_, fun c => ?_⟩
  · have h := h.1 c
    refine r_iload_n (kd46 rfl) rfl rfl ?_
    refine r_iload_n (kd46 rfl) rfl rfl ?_
    refine r_imul (kd46 rfl) rfl ?_
    exact r_ireturn (kd46 rfl) R46 h
  have h := h.2 c
  refine ⟨fun c => ?_, fun c => ?_⟩
  · have h := h.1 c
    refine r_iload_n (kd46 rfl) rfl rfl ?_
    refine r_if_ne (kd46 rfl) rfl (fun c => ?_) (fun c => ?_)
    · have h := h.1 c
      refine r_iload_n (kd46 rfl) rfl rfl ?_
      refine r_iload_n (kd46 rfl) rfl rfl ?_
      obtain ⟨g, h⟩ := h
      refine r_idiv (kd46 rfl) g rfl ?_
      exact (b_Machine_calculated_79 hd h).less e_sn
    · have h := h.2 c
      refine r_iconst (kd46 rfl) (y := 0) (by decide) rfl ?_
      refine r_goto (kd46 rfl) ?_
      exact (b_Machine_calculated_79 hd h).less e_sn
  have h := h.2 c
  refine ⟨fun c => ?_, fun c => ?_⟩
  · have h := h.1 c
    refine r_iload_n (kd46 rfl) rfl rfl ?_
    refine r_if_ne (kd46 rfl) rfl (fun c => ?_) (fun c => ?_)
    · have h := h.1 c
      refine r_iload_n (kd46 rfl) rfl rfl ?_
      refine r_iload_n (kd46 rfl) rfl rfl ?_
      obtain ⟨g, h⟩ := h
      refine r_irem (kd46 rfl) g rfl ?_
      exact (b_Machine_calculated_91 hd h).less e_sn
    · have h := h.2 c
      refine r_iconst (kd46 rfl) (y := 0) (by decide) rfl ?_
      refine r_goto (kd46 rfl) ?_
      exact (b_Machine_calculated_91 hd h).less e_sn
  have h := h.2 c
  refine ⟨fun c => ?_, fun c => ?_⟩
  · have h := h.1 c
    refine r_iload_n (kd46 rfl) rfl rfl ?_
    refine r_iload_n (kd46 rfl) rfl rfl ?_
    refine r_iand (kd46 rfl) rfl ?_
    exact r_ireturn (kd46 rfl) R46 h
  have h := h.2 c
  refine ⟨fun c => ?_, fun c => ?_⟩
  · have h := h.1 c
    refine r_iload_n (kd46 rfl) rfl rfl ?_
    refine r_iload_n (kd46 rfl) rfl rfl ?_
    refine r_ior (kd46 rfl) rfl ?_
    exact r_ireturn (kd46 rfl) R46 h
  have h := h.2 c
  refine ⟨fun c => ?_, fun c => ?_⟩
  · have h := h.1 c
    refine r_iload_n (kd46 rfl) rfl rfl ?_
    refine r_iload_n (kd46 rfl) rfl rfl ?_
    refine r_ixor (kd46 rfl) rfl ?_
    exact r_ireturn (kd46 rfl) R46 h
  have h := h.2 c
  refine ⟨fun c => ?_, fun c => ?_⟩
  · have h := h.1 c
    refine r_iload_n (kd46 rfl) rfl rfl ?_
    refine r_iload_n (kd46 rfl) rfl rfl ?_
    refine r_ishl (kd46 rfl) rfl ?_
    exact r_ireturn (kd46 rfl) R46 h
  have h := h.2 c
  refine ⟨fun c => ?_, fun c => ?_⟩
  · have h := h.1 c
    refine r_iload_n (kd46 rfl) rfl rfl ?_
    refine r_iload_n (kd46 rfl) rfl rfl ?_
    refine r_ishr (kd46 rfl) rfl ?_
    exact r_ireturn (kd46 rfl) R46 h
  have h := h.2 c
  show e_E 46 _ _ _ 112 _ _ _ _
  refine r_iload_n (kd46 rfl) rfl rfl ?_
  refine r_iload_n (kd46 rfl) rfl rfl ?_
  refine r_iushr (kd46 rfl) rfl ?_
  exact r_ireturn (kd46 rfl) R46 h
/-- TierMill$Machine.calculate(I)I -/
theorem kd45 {pc : Nat} {q : eI} (h : e_d45.lookup pc = some q) : e_dec 45 pc = some q := h
theorem L45 : (e_m 45).2.2.1 = 3 := rfl
theorem R45 : (e_m 45).2.2.2.1 = (some .int) := rfl
def w_Machine_calculate_25 (M : eM) (Q : Int32 → eM → Prop) : Prop := Q (1 : Int32) M
theorem b_Machine_calculate_25 {d : Nat} {M : eM} {Q : Int32 → eM → Prop} (hd : 2 ≤ d) (h : w_Machine_calculate_25 M Q ) : e_E 45 d 0 0 25 [] [] M (e_QI Q) := by
  unfold w_Machine_calculate_25 at h
  refine r_iconst (kd45 rfl) (y := 1) (by decide) rfl ?_
  exact r_ireturn (kd45 rfl) R45 h
def w_Machine_calculate_62 (l0 : Nat) (l1 : Int32) (s0 : Int32) (s1 : Nat) (M : eM) (Q : Int32 → eM → Prop) : Prop := e_ob M s1 2 ∧ w_Frames_push s1 s0 M (fun (M9 : eM) => e_ob M9 l0 4 ∧ e_ai M9 2 l1 ∧ e_ob M9 (gr M9 l0 0) 2 ∧ w_Frames_goOn (gr M9 l0 0) (gi M9 2 l1.toNatClampNeg) M9 (fun (M10 : eM) => Q (0 : Int32) M10))
theorem b_Machine_calculate_62 {d : Nat} {l0 : Nat} {l1 : Int32} {s0 : Int32} {s1 : Nat} {M : eM} {Q : Int32 → eM → Prop} (hd : 2 ≤ d) (h : w_Machine_calculate_62 l0 l1 s0 s1 M Q ) : e_E 45 d 0 0 62 [(0, .ref l0), (1, .int l1)] [.int s0, .ref s1] M (e_QI Q) := by
  unfold w_Machine_calculate_62 at h
  obtain ⟨g, h⟩ := h
  refine r_callVV (d' := d - 1) (by omega) (kd45 rfl) (by decide) rfl rfl rfl rfl (Nat.le_of_ble_eq_true rfl) rfl L18 (Nat.le_of_ble_eq_true rfl) (Nat.le_of_ble_eq_true rfl) g (Nat.zero_le _) (Nat.zero_le _) rfl rfl rfl (b_Frames_push (by omega) h) (fun M1 h => ?_)
  refine r_aload_n (kd45 rfl) rfl rfl ?_
  obtain ⟨g, h⟩ := h
  refine r_get2 (kd45 rfl) (by decide) rfl g rfl ?_
  refine r_getstatic (kd45 rfl) (by decide) rfl ?_
  refine r_iload_n (kd45 rfl) rfl rfl ?_
  obtain ⟨g, h⟩ := h
  refine r_iaload (kd45 rfl) g rfl ?_
  obtain ⟨g, h⟩ := h
  refine r_callVV (d' := d - 1) (by omega) (kd45 rfl) (by decide) rfl rfl rfl rfl (Nat.le_of_ble_eq_true rfl) rfl L19 (Nat.le_of_ble_eq_true rfl) (Nat.le_of_ble_eq_true rfl) g (Nat.zero_le _) (Nat.zero_le _) rfl rfl rfl (b_Frames_goOn (by omega) h) (fun M1 h => ?_)
  refine r_iconst (kd45 rfl) (y := 0) (by decide) rfl ?_
  exact r_ireturn (kd45 rfl) R45 h
def w_Machine_calculate_27 (l0 : Nat) (l1 : Int32) (l2 : Int32) (M : eM) (Q : Int32 → eM → Prop) : Prop := e_ob M l0 4 ∧ e_ob M (gr M l0 0) 2 ∧ w_Frames_pop (gr M l0 0) M (fun (v4 : Int32) (M3 : eM) => e_ob M3 l0 4 ∧ (¬ l1 = 19 → e_ob M3 l0 4 ∧ e_ob M3 (gr M3 l0 0) 2 ∧ w_Frames_pop (gr M3 l0 0) M3 (fun (v6 : Int32) (M5 : eM) => w_Machine_calculated l1 v6 l2 M5 (fun (v8 : Int32) (M7 : eM) => w_Machine_calculate_62 l0 l1 v8 (gr M3 l0 0) M7 Q))) ∧ (l1 = 19 → w_Machine_calculate_62 l0 l1 (-l2) (gr M3 l0 0) M3 Q))
theorem b_Machine_calculate_27 {d : Nat} {l0 : Nat} {l1 : Int32} {l2 : Int32} {M : eM} {Q : Int32 → eM → Prop} (hd : 2 ≤ d) (h : w_Machine_calculate_27 l0 l1 l2 M Q ) : e_E 45 d 0 0 27 [(0, .ref l0), (1, .int l1), (2, .int l2)] [] M (e_QI Q) := by
  unfold w_Machine_calculate_27 at h
  refine r_aload_n (kd45 rfl) rfl rfl ?_
  obtain ⟨g, h⟩ := h
  refine r_get2 (kd45 rfl) (by decide) rfl g rfl ?_
  obtain ⟨g, h⟩ := h
  refine r_callVI (d' := d - 1) (by omega) (kd45 rfl) (by decide) rfl rfl rfl rfl (Nat.le_of_ble_eq_true rfl) rfl L17 (Nat.le_of_ble_eq_true rfl) (Nat.le_of_ble_eq_true rfl) g (Nat.zero_le _) (Nat.zero_le _) rfl rfl rfl (b_Frames_pop (by omega) h) (fun x1 M1 h => ?_)
  refine r_pop (kd45 rfl) rfl rfl ?_
  refine r_aload_n (kd45 rfl) rfl rfl ?_
  obtain ⟨g, h⟩ := h
  refine r_get2 (kd45 rfl) (by decide) rfl g rfl ?_
  refine r_iload_n (kd45 rfl) rfl rfl ?_
  refine r_bipush (kd45 rfl) (y := 19) (by decide) rfl ?_
  refine r_icmp_ne (kd45 rfl) rfl (fun c => ?_) (fun c => ?_)
  · have h := h.1 c
    refine r_iload_n (kd45 rfl) rfl rfl ?_
    refine r_aload_n (kd45 rfl) rfl rfl ?_
    obtain ⟨g, h⟩ := h
    refine r_get2 (kd45 rfl) (by decide) rfl g rfl ?_
    obtain ⟨g, h⟩ := h
    refine r_callVI (d' := d - 1) (by omega) (kd45 rfl) (by decide) rfl rfl rfl rfl (Nat.le_of_ble_eq_true rfl) rfl L17 (Nat.le_of_ble_eq_true rfl) (Nat.le_of_ble_eq_true rfl) g (Nat.zero_le _) (Nat.zero_le _) rfl rfl rfl (b_Frames_pop (by omega) h) (fun x1 M1 h => ?_)
    refine r_iload_n (kd45 rfl) rfl rfl ?_
    refine r_callSI (d' := d - 1) (by omega) (kd45 rfl) (by decide) rfl rfl rfl rfl (Nat.le_of_ble_eq_true rfl) rfl L46 (Nat.le_of_ble_eq_true rfl) (Nat.le_of_ble_eq_true rfl) (Nat.zero_le _) (Nat.zero_le _) rfl rfl rfl (b_Machine_calculated (by omega) h) (fun x1 M1 h => ?_)
    exact (b_Machine_calculate_62 hd h).less (e_sc (List.mem_of_getElem? (i := 0) rfl) (e_sc (List.mem_of_getElem? (i := 1) rfl) e_sn))
  · have h := h.2 c
    refine r_iload_n (kd45 rfl) rfl rfl ?_
    refine r_ineg (kd45 rfl) rfl ?_
    refine r_goto (kd45 rfl) ?_
    exact (b_Machine_calculate_62 hd h).less (e_sc (List.mem_of_getElem? (i := 0) rfl) (e_sc (List.mem_of_getElem? (i := 1) rfl) e_sn))
def w_Machine_calculate (l0 : Nat) (l1 : Int32) (M : eM) (Q : Int32 → eM → Prop) : Prop := e_ob M l0 4 ∧ e_ob M (gr M l0 0) 2 ∧ w_Frames_peek (gr M l0 0) 0 M (fun (v2 : Int32) (M1 : eM) => (¬ v2 = 0 → w_Machine_calculate_27 l0 l1 v2 M1 Q) ∧ (v2 = 0 → (l1 = 11 → w_Machine_calculate_25 M1 Q) ∧ (¬ l1 = 11 → (¬ l1 = 12 → w_Machine_calculate_27 l0 l1 v2 M1 Q) ∧ (l1 = 12 → w_Machine_calculate_25 M1 Q))))
theorem b_Machine_calculate {d : Nat} {l0 : Nat} {l1 : Int32} {M : eM} {Q : Int32 → eM → Prop} (hd : 2 ≤ d) (h : w_Machine_calculate l0 l1 M Q) : e_CI 45 d 0 0 [.ref l0, .int l1] M Q := by
  unfold w_Machine_calculate at h
  show e_E 45 d 0 0 0 [(0, .ref l0), (1, .int l1)] [] M (e_QI Q)
  refine r_aload_n (kd45 rfl) rfl rfl ?_
  obtain ⟨g, h⟩ := h
  refine r_get2 (kd45 rfl) (by decide) rfl g rfl ?_
  refine r_iconst (kd45 rfl) (y := 0) (by decide) rfl ?_
  obtain ⟨g, h⟩ := h
  refine r_callVI (d' := d - 1) (by omega) (kd45 rfl) (by decide) rfl rfl rfl rfl (Nat.le_of_ble_eq_true rfl) rfl L16 (Nat.le_of_ble_eq_true rfl) (Nat.le_of_ble_eq_true rfl) g (Nat.zero_le _) (Nat.zero_le _) rfl rfl rfl (b_Frames_peek (by omega) h) (fun x1 M1 h => ?_)
  refine r_istore_n (kd45 rfl) L45 (by decide) rfl rfl ?_
  refine r_iload_n (kd45 rfl) rfl rfl ?_
  refine r_if_ne (kd45 rfl) rfl (fun c => ?_) (fun c => ?_)
  · have h := h.1 c
    exact (b_Machine_calculate_27 hd h).less (e_sc (List.mem_of_getElem? (i := 1) rfl) (e_sc (List.mem_of_getElem? (i := 2) rfl) (e_sc (List.mem_of_getElem? (i := 0) rfl) e_sn)))
  · have h := h.2 c
    refine r_iload_n (kd45 rfl) rfl rfl ?_
    refine r_bipush (kd45 rfl) (y := 11) (by decide) rfl ?_
    refine r_icmp_eq (kd45 rfl) rfl (fun c => ?_) (fun c => ?_)
    · have h := h.1 c
      exact (b_Machine_calculate_25 hd h).less e_sn
    · have h := h.2 c
      refine r_iload_n (kd45 rfl) rfl rfl ?_
      refine r_bipush (kd45 rfl) (y := 12) (by decide) rfl ?_
      refine r_icmp_ne (kd45 rfl) rfl (fun c => ?_) (fun c => ?_)
      · have h := h.1 c
        exact (b_Machine_calculate_27 hd h).less (e_sc (List.mem_of_getElem? (i := 1) rfl) (e_sc (List.mem_of_getElem? (i := 2) rfl) (e_sc (List.mem_of_getElem? (i := 0) rfl) e_sn)))
      · have h := h.2 c
        exact (b_Machine_calculate_25 hd h).less e_sn
/-- TierMill$Machine.chosen()I -/
theorem kd48 {pc : Nat} {q : eI} (h : e_d48.lookup pc = some q) : e_dec 48 pc = some q := h
theorem L48 : (e_m 48).2.2.1 = 3 := rfl
theorem R48 : (e_m 48).2.2.2.1 = (some .int) := rfl
def w_Machine_chosen_50 (s0 : Int32) (s1 : Int32) (s2 : Nat) (M : eM) (Q : Int32 → eM → Prop) : Prop := e_ai M s2 (s1 + s0) ∧ Q (gi M s2 (s1 + s0).toNatClampNeg) M
theorem b_Machine_chosen_50 {d : Nat} {s0 : Int32} {s1 : Int32} {s2 : Nat} {M : eM} {Q : Int32 → eM → Prop} (hd : 2 ≤ d) (h : w_Machine_chosen_50 s0 s1 s2 M Q ) : e_E 48 d 0 0 50 [] [.int s0, .int s1, .ref s2] M (e_QI Q) := by
  unfold w_Machine_chosen_50 at h
  refine r_iadd (kd48 rfl) rfl ?_
  obtain ⟨g, h⟩ := h
  refine r_iaload (kd48 rfl) g rfl ?_
  exact r_ireturn (kd48 rfl) R48 h
def w_Machine_chosen_49 (l1 : Int32) (s0 : Int32) (s1 : Nat) (M : eM) (Q : Int32 → eM → Prop) : Prop := w_Machine_chosen_50 l1 s0 s1 M Q
theorem b_Machine_chosen_49 {d : Nat} {l1 : Int32} {s0 : Int32} {s1 : Nat} {M : eM} {Q : Int32 → eM → Prop} (hd : 2 ≤ d) (h : w_Machine_chosen_49 l1 s0 s1 M Q ) : e_E 48 d 0 0 49 [(1, .int l1)] [.int s0, .ref s1] M (e_QI Q) := by
  unfold w_Machine_chosen_49 at h
  refine r_iload_n (kd48 rfl) rfl rfl ?_
  exact (b_Machine_chosen_50 hd h).less e_sn
def w_Machine_chosen (l0 : Nat) (M : eM) (Q : Int32 → eM → Prop) : Prop := e_ob M l0 4 ∧ e_ob M (gr M l0 14) 6 ∧ e_ob M l0 4 ∧ e_ai M (gr M (gr M l0 14) 0) ((gi M l0 15) + 1) ∧ e_ob M l0 4 ∧ e_ob M (gr M l0 0) 2 ∧ w_Frames_pop (gr M l0 0) M (fun (v2 : Int32) (M1 : eM) => e_ob M1 l0 4 ∧ e_ob M1 (gr M1 l0 14) 6 ∧ e_ob M1 l0 4 ∧ (v2 < 0 → w_Machine_chosen_49 (gi M (gr M (gr M l0 14) 0) ((gi M l0 15) + 1).toNatClampNeg) ((gi M1 l0 15) + 2) (gr M1 (gr M1 l0 14) 0) M1 Q) ∧ (¬ v2 < 0 → ((gi M (gr M (gr M l0 14) 0) ((gi M l0 15) + 1).toNatClampNeg) ≤ v2 → w_Machine_chosen_49 (gi M (gr M (gr M l0 14) 0) ((gi M l0 15) + 1).toNatClampNeg) ((gi M1 l0 15) + 2) (gr M1 (gr M1 l0 14) 0) M1 Q) ∧ (¬ (gi M (gr M (gr M l0 14) 0) ((gi M l0 15) + 1).toNatClampNeg) ≤ v2 → w_Machine_chosen_50 v2 ((gi M1 l0 15) + 2) (gr M1 (gr M1 l0 14) 0) M1 Q)))
theorem b_Machine_chosen {d : Nat} {l0 : Nat} {M : eM} {Q : Int32 → eM → Prop} (hd : 2 ≤ d) (h : w_Machine_chosen l0 M Q) : e_CI 48 d 0 0 [.ref l0] M Q := by
  unfold w_Machine_chosen at h
  show e_E 48 d 0 0 0 [(0, .ref l0)] [] M (e_QI Q)
  refine r_aload_n (kd48 rfl) rfl rfl ?_
  obtain ⟨g, h⟩ := h
  refine r_get2 (kd48 rfl) (by decide) rfl g rfl ?_
  obtain ⟨g, h⟩ := h
  refine r_get2 (kd48 rfl) (by decide) rfl g rfl ?_
  refine r_aload_n (kd48 rfl) rfl rfl ?_
  obtain ⟨g, h⟩ := h
  refine r_get0 (kd48 rfl) (by decide) rfl g rfl ?_
  refine r_iconst (kd48 rfl) (y := 1) (by decide) rfl ?_
  refine r_iadd (kd48 rfl) rfl ?_
  obtain ⟨g, h⟩ := h
  refine r_iaload (kd48 rfl) g rfl ?_
  refine r_istore_n (kd48 rfl) L48 (by decide) rfl rfl ?_
  refine r_aload_n (kd48 rfl) rfl rfl ?_
  obtain ⟨g, h⟩ := h
  refine r_get2 (kd48 rfl) (by decide) rfl g rfl ?_
  obtain ⟨g, h⟩ := h
  refine r_callVI (d' := d - 1) (by omega) (kd48 rfl) (by decide) rfl rfl rfl rfl (Nat.le_of_ble_eq_true rfl) rfl L17 (Nat.le_of_ble_eq_true rfl) (Nat.le_of_ble_eq_true rfl) g (Nat.zero_le _) (Nat.zero_le _) rfl rfl rfl (b_Frames_pop (by omega) h) (fun x1 M1 h => ?_)
  refine r_istore_n (kd48 rfl) L48 (by decide) rfl rfl ?_
  refine r_aload_n (kd48 rfl) rfl rfl ?_
  obtain ⟨g, h⟩ := h
  refine r_get2 (kd48 rfl) (by decide) rfl g rfl ?_
  obtain ⟨g, h⟩ := h
  refine r_get2 (kd48 rfl) (by decide) rfl g rfl ?_
  refine r_aload_n (kd48 rfl) rfl rfl ?_
  obtain ⟨g, h⟩ := h
  refine r_get0 (kd48 rfl) (by decide) rfl g rfl ?_
  refine r_iconst (kd48 rfl) (y := 2) (by decide) rfl ?_
  refine r_iadd (kd48 rfl) rfl ?_
  refine r_iload_n (kd48 rfl) rfl rfl ?_
  refine r_if_lt (kd48 rfl) rfl (fun c => ?_) (fun c => ?_)
  · have h := h.1 c
    exact (b_Machine_chosen_49 hd h).less (e_sc (List.mem_of_getElem? (i := 1) rfl) e_sn)
  · have h := h.2 c
    refine r_iload_n (kd48 rfl) rfl rfl ?_
    refine r_iload_n (kd48 rfl) rfl rfl ?_
    refine r_icmp_ge (kd48 rfl) rfl (fun c => ?_) (fun c => ?_)
    · have h := h.1 c
      exact (b_Machine_chosen_49 hd h).less (e_sc (List.mem_of_getElem? (i := 1) rfl) e_sn)
    · have h := h.2 c
      refine r_iload_n (kd48 rfl) rfl rfl ?_
      refine r_goto (kd48 rfl) ?_
      exact (b_Machine_chosen_50 hd h).less e_sn
/-- TierMill$Machine.compares(III)Z -/
theorem kd50 {pc : Nat} {q : eI} (h : e_d50.lookup pc = some q) : e_dec 50 pc = some q := h
theorem L50 : (e_m 50).2.2.1 = 3 := rfl
theorem R50 : (e_m 50).2.2.2.1 = (some .boolean) := rfl
def w_Machine_compares_46 (s0 : Int32) (M : eM) (Q : Int32 → eM → Prop) : Prop := (s0 = 0 ∨ s0 = 1) ∧ Q s0 M
theorem b_Machine_compares_46 {d : Nat} {s0 : Int32} {M : eM} {Q : Int32 → eM → Prop} (hd : 0 ≤ d) (h : w_Machine_compares_46 s0 M Q ) : e_E 50 d 0 0 46 [] [.int s0] M (e_QI Q) := by
  unfold w_Machine_compares_46 at h
  exact r_zreturn (kd50 rfl) R50 h.1 h.2
def w_Machine_compares_57 (s0 : Int32) (M : eM) (Q : Int32 → eM → Prop) : Prop := (s0 = 0 ∨ s0 = 1) ∧ Q s0 M
theorem b_Machine_compares_57 {d : Nat} {s0 : Int32} {M : eM} {Q : Int32 → eM → Prop} (hd : 0 ≤ d) (h : w_Machine_compares_57 s0 M Q ) : e_E 50 d 0 0 57 [] [.int s0] M (e_QI Q) := by
  unfold w_Machine_compares_57 at h
  exact r_zreturn (kd50 rfl) R50 h.1 h.2
def w_Machine_compares_68 (s0 : Int32) (M : eM) (Q : Int32 → eM → Prop) : Prop := (s0 = 0 ∨ s0 = 1) ∧ Q s0 M
theorem b_Machine_compares_68 {d : Nat} {s0 : Int32} {M : eM} {Q : Int32 → eM → Prop} (hd : 0 ≤ d) (h : w_Machine_compares_68 s0 M Q ) : e_E 50 d 0 0 68 [] [.int s0] M (e_QI Q) := by
  unfold w_Machine_compares_68 at h
  exact r_zreturn (kd50 rfl) R50 h.1 h.2
def w_Machine_compares_79 (s0 : Int32) (M : eM) (Q : Int32 → eM → Prop) : Prop := (s0 = 0 ∨ s0 = 1) ∧ Q s0 M
theorem b_Machine_compares_79 {d : Nat} {s0 : Int32} {M : eM} {Q : Int32 → eM → Prop} (hd : 0 ≤ d) (h : w_Machine_compares_79 s0 M Q ) : e_E 50 d 0 0 79 [] [.int s0] M (e_QI Q) := by
  unfold w_Machine_compares_79 at h
  exact r_zreturn (kd50 rfl) R50 h.1 h.2
def w_Machine_compares_90 (s0 : Int32) (M : eM) (Q : Int32 → eM → Prop) : Prop := (s0 = 0 ∨ s0 = 1) ∧ Q s0 M
theorem b_Machine_compares_90 {d : Nat} {s0 : Int32} {M : eM} {Q : Int32 → eM → Prop} (hd : 0 ≤ d) (h : w_Machine_compares_90 s0 M Q ) : e_E 50 d 0 0 90 [] [.int s0] M (e_QI Q) := by
  unfold w_Machine_compares_90 at h
  exact r_zreturn (kd50 rfl) R50 h.1 h.2
def w_Machine_compares_101 (s0 : Int32) (M : eM) (Q : Int32 → eM → Prop) : Prop := (s0 = 0 ∨ s0 = 1) ∧ Q s0 M
theorem b_Machine_compares_101 {d : Nat} {s0 : Int32} {M : eM} {Q : Int32 → eM → Prop} (hd : 0 ≤ d) (h : w_Machine_compares_101 s0 M Q ) : e_E 50 d 0 0 101 [] [.int s0] M (e_QI Q) := by
  unfold w_Machine_compares_101 at h
  exact r_zreturn (kd50 rfl) R50 h.1 h.2
def w_Machine_compares (l0 : Int32) (l1 : Int32) (l2 : Int32) (M : eM) (Q : Int32 → eM → Prop) : Prop := (l0 = 0 → (¬ l1 = l2 → w_Machine_compares_46 0 M Q) ∧ (l1 = l2 → w_Machine_compares_46 1 M Q)) ∧ (¬ l0 = 0 → (l0 = 1 → (l1 = l2 → w_Machine_compares_57 0 M Q) ∧ (¬ l1 = l2 → w_Machine_compares_57 1 M Q)) ∧ (¬ l0 = 1 → (l0 = 2 → (l2 ≤ l1 → w_Machine_compares_68 0 M Q) ∧ (¬ l2 ≤ l1 → w_Machine_compares_68 1 M Q)) ∧ (¬ l0 = 2 → (l0 = 3 → (l1 < l2 → w_Machine_compares_79 0 M Q) ∧ (¬ l1 < l2 → w_Machine_compares_79 1 M Q)) ∧ (¬ l0 = 3 → (l0 = 4 → (l1 ≤ l2 → w_Machine_compares_90 0 M Q) ∧ (¬ l1 ≤ l2 → w_Machine_compares_90 1 M Q)) ∧ (¬ l0 = 4 → (l2 < l1 → w_Machine_compares_101 0 M Q) ∧ (¬ l2 < l1 → w_Machine_compares_101 1 M Q))))))
theorem b_Machine_compares {d : Nat} {l0 : Int32} {l1 : Int32} {l2 : Int32} {M : eM} {Q : Int32 → eM → Prop} (hd : 0 ≤ d) (h : w_Machine_compares l0 l1 l2 M Q) : e_CI 50 d 0 0 [.int l0, .int l1, .int l2] M Q := by
  unfold w_Machine_compares at h
  show e_E 50 d 0 0 0 [(0, .int l0), (1, .int l1), (2, .int l2)] [] M (e_QI Q)
  refine r_iload_n (kd50 rfl) rfl rfl ?_
  refine r_tableswitch (kd50 rfl) (u := 91) (qs := [(0, 36), (1, 47), (2, 58), (3, 69), (4, 80)]) rfl rfl rfl (by decide) ?_
  refine ⟨fun c => ?_, fun c => ?_⟩
  · have h := h.1 c
    refine r_iload_n (kd50 rfl) rfl rfl ?_
    refine r_iload_n (kd50 rfl) rfl rfl ?_
    refine r_icmp_ne (kd50 rfl) rfl (fun c => ?_) (fun c => ?_)
    · have h := h.1 c
      refine r_iconst (kd50 rfl) (y := 0) (by decide) rfl ?_
      exact (b_Machine_compares_46 hd h).less e_sn
    · have h := h.2 c
      refine r_iconst (kd50 rfl) (y := 1) (by decide) rfl ?_
      refine r_goto (kd50 rfl) ?_
      exact (b_Machine_compares_46 hd h).less e_sn
  have h := h.2 c
  refine ⟨fun c => ?_, fun c => ?_⟩
  · have h := h.1 c
    refine r_iload_n (kd50 rfl) rfl rfl ?_
    refine r_iload_n (kd50 rfl) rfl rfl ?_
    refine r_icmp_eq (kd50 rfl) rfl (fun c => ?_) (fun c => ?_)
    · have h := h.1 c
      refine r_iconst (kd50 rfl) (y := 0) (by decide) rfl ?_
      exact (b_Machine_compares_57 hd h).less e_sn
    · have h := h.2 c
      refine r_iconst (kd50 rfl) (y := 1) (by decide) rfl ?_
      refine r_goto (kd50 rfl) ?_
      exact (b_Machine_compares_57 hd h).less e_sn
  have h := h.2 c
  refine ⟨fun c => ?_, fun c => ?_⟩
  · have h := h.1 c
    refine r_iload_n (kd50 rfl) rfl rfl ?_
    refine r_iload_n (kd50 rfl) rfl rfl ?_
    refine r_icmp_ge (kd50 rfl) rfl (fun c => ?_) (fun c => ?_)
    · have h := h.1 c
      refine r_iconst (kd50 rfl) (y := 0) (by decide) rfl ?_
      exact (b_Machine_compares_68 hd h).less e_sn
    · have h := h.2 c
      refine r_iconst (kd50 rfl) (y := 1) (by decide) rfl ?_
      refine r_goto (kd50 rfl) ?_
      exact (b_Machine_compares_68 hd h).less e_sn
  have h := h.2 c
  refine ⟨fun c => ?_, fun c => ?_⟩
  · have h := h.1 c
    refine r_iload_n (kd50 rfl) rfl rfl ?_
    refine r_iload_n (kd50 rfl) rfl rfl ?_
    refine r_icmp_lt (kd50 rfl) rfl (fun c => ?_) (fun c => ?_)
    · have h := h.1 c
      refine r_iconst (kd50 rfl) (y := 0) (by decide) rfl ?_
      exact (b_Machine_compares_79 hd h).less e_sn
    · have h := h.2 c
      refine r_iconst (kd50 rfl) (y := 1) (by decide) rfl ?_
      refine r_goto (kd50 rfl) ?_
      exact (b_Machine_compares_79 hd h).less e_sn
  have h := h.2 c
  refine ⟨fun c => ?_, fun c => ?_⟩
  · have h := h.1 c
    refine r_iload_n (kd50 rfl) rfl rfl ?_
    refine r_iload_n (kd50 rfl) rfl rfl ?_
    refine r_icmp_le (kd50 rfl) rfl (fun c => ?_) (fun c => ?_)
    · have h := h.1 c
      refine r_iconst (kd50 rfl) (y := 0) (by decide) rfl ?_
      exact (b_Machine_compares_90 hd h).less e_sn
    · have h := h.2 c
      refine r_iconst (kd50 rfl) (y := 1) (by decide) rfl ?_
      refine r_goto (kd50 rfl) ?_
      exact (b_Machine_compares_90 hd h).less e_sn
  have h := h.2 c
  show e_E 50 _ _ _ 91 _ _ _ _
  refine r_iload_n (kd50 rfl) rfl rfl ?_
  refine r_iload_n (kd50 rfl) rfl rfl ?_
  refine r_icmp_gt (kd50 rfl) rfl (fun c => ?_) (fun c => ?_)
  · have h := h.1 c
    refine r_iconst (kd50 rfl) (y := 0) (by decide) rfl ?_
    exact (b_Machine_compares_101 hd h).less e_sn
  · have h := h.2 c
    refine r_iconst (kd50 rfl) (y := 1) (by decide) rfl ?_
    refine r_goto (kd50 rfl) ?_
    exact (b_Machine_compares_101 hd h).less e_sn
/-- TierMill$Machine.isTaken(I)Z -/
theorem kd49 {pc : Nat} {q : eI} (h : e_d49.lookup pc = some q) : e_dec 49 pc = some q := h
theorem L49 : (e_m 49).2.2.1 = 4 := rfl
theorem R49 : (e_m 49).2.2.2.1 = (some .boolean) := rfl
def w_Machine_isTaken_72 (s0 : Int32) (M : eM) (Q : Int32 → eM → Prop) : Prop := (s0 = 0 ∨ s0 = 1) ∧ Q s0 M
theorem b_Machine_isTaken_72 {d : Nat} {s0 : Int32} {M : eM} {Q : Int32 → eM → Prop} (hd : 2 ≤ d) (h : w_Machine_isTaken_72 s0 M Q ) : e_E 49 d 0 0 72 [] [.int s0] M (e_QI Q) := by
  unfold w_Machine_isTaken_72 at h
  exact r_zreturn (kd49 rfl) R49 h.1 h.2
def w_Machine_isTaken_64 (s0 : Int32) (s1 : Int32) (M : eM) (Q : Int32 → eM → Prop) : Prop := (¬ s1 = s0 → w_Machine_isTaken_72 0 M Q) ∧ (s1 = s0 → w_Machine_isTaken_72 1 M Q)
theorem b_Machine_isTaken_64 {d : Nat} {s0 : Int32} {s1 : Int32} {M : eM} {Q : Int32 → eM → Prop} (hd : 2 ≤ d) (h : w_Machine_isTaken_64 s0 s1 M Q ) : e_E 49 d 0 0 64 [] [.int s0, .int s1] M (e_QI Q) := by
  unfold w_Machine_isTaken_64 at h
  refine r_icmp_ne (kd49 rfl) rfl (fun c => ?_) (fun c => ?_)
  · have h := h.1 c
    refine r_iconst (kd49 rfl) (y := 0) (by decide) rfl ?_
    exact (b_Machine_isTaken_72 hd h).less e_sn
  · have h := h.2 c
    refine r_iconst (kd49 rfl) (y := 1) (by decide) rfl ?_
    refine r_goto (kd49 rfl) ?_
    exact (b_Machine_isTaken_72 hd h).less e_sn
def w_Machine_isTaken_53 (l1 : Int32) (s0 : Int32) (M : eM) (Q : Int32 → eM → Prop) : Prop := (¬ l1 = 34 → w_Machine_isTaken_64 0 s0 M Q) ∧ (l1 = 34 → w_Machine_isTaken_64 1 s0 M Q)
theorem b_Machine_isTaken_53 {d : Nat} {l1 : Int32} {s0 : Int32} {M : eM} {Q : Int32 → eM → Prop} (hd : 2 ≤ d) (h : w_Machine_isTaken_53 l1 s0 M Q ) : e_E 49 d 0 0 53 [(1, .int l1)] [.int s0] M (e_QI Q) := by
  unfold w_Machine_isTaken_53 at h
  refine r_iload_n (kd49 rfl) rfl rfl ?_
  refine r_bipush (kd49 rfl) (y := 34) (by decide) rfl ?_
  refine r_icmp_ne (kd49 rfl) rfl (fun c => ?_) (fun c => ?_)
  · have h := h.1 c
    refine r_iconst (kd49 rfl) (y := 0) (by decide) rfl ?_
    exact (b_Machine_isTaken_64 hd h).less e_sn
  · have h := h.2 c
    refine r_iconst (kd49 rfl) (y := 1) (by decide) rfl ?_
    refine r_goto (kd49 rfl) ?_
    exact (b_Machine_isTaken_64 hd h).less e_sn
def w_Machine_isTaken_44 (l1 : Int32) (l2 : Int32) (M : eM) (Q : Int32 → eM → Prop) : Prop := (¬ l2 = 0 → w_Machine_isTaken_53 l1 0 M Q) ∧ (l2 = 0 → w_Machine_isTaken_53 l1 1 M Q)
theorem b_Machine_isTaken_44 {d : Nat} {l1 : Int32} {l2 : Int32} {M : eM} {Q : Int32 → eM → Prop} (hd : 2 ≤ d) (h : w_Machine_isTaken_44 l1 l2 M Q ) : e_E 49 d 0 0 44 [(1, .int l1), (2, .int l2)] [] M (e_QI Q) := by
  unfold w_Machine_isTaken_44 at h
  refine r_iload_n (kd49 rfl) rfl rfl ?_
  refine r_if_ne (kd49 rfl) rfl (fun c => ?_) (fun c => ?_)
  · have h := h.1 c
    refine r_iconst (kd49 rfl) (y := 0) (by decide) rfl ?_
    exact (b_Machine_isTaken_53 hd h).less (e_sc (List.mem_of_getElem? (i := 0) rfl) e_sn)
  · have h := h.2 c
    refine r_iconst (kd49 rfl) (y := 1) (by decide) rfl ?_
    refine r_goto (kd49 rfl) ?_
    exact (b_Machine_isTaken_53 hd h).less (e_sc (List.mem_of_getElem? (i := 0) rfl) e_sn)
def w_Machine_isTaken_126 (s0 : Int32) (M : eM) (Q : Int32 → eM → Prop) : Prop := (s0 = 0 ∨ s0 = 1) ∧ Q s0 M
theorem b_Machine_isTaken_126 {d : Nat} {s0 : Int32} {M : eM} {Q : Int32 → eM → Prop} (hd : 2 ≤ d) (h : w_Machine_isTaken_126 s0 M Q ) : e_E 49 d 0 0 126 [] [.int s0] M (e_QI Q) := by
  unfold w_Machine_isTaken_126 at h
  exact r_zreturn (kd49 rfl) R49 h.1 h.2
def w_Machine_isTaken_118 (s0 : Int32) (s1 : Int32) (M : eM) (Q : Int32 → eM → Prop) : Prop := (¬ s1 = s0 → w_Machine_isTaken_126 0 M Q) ∧ (s1 = s0 → w_Machine_isTaken_126 1 M Q)
theorem b_Machine_isTaken_118 {d : Nat} {s0 : Int32} {s1 : Int32} {M : eM} {Q : Int32 → eM → Prop} (hd : 2 ≤ d) (h : w_Machine_isTaken_118 s0 s1 M Q ) : e_E 49 d 0 0 118 [] [.int s0, .int s1] M (e_QI Q) := by
  unfold w_Machine_isTaken_118 at h
  refine r_icmp_ne (kd49 rfl) rfl (fun c => ?_) (fun c => ?_)
  · have h := h.1 c
    refine r_iconst (kd49 rfl) (y := 0) (by decide) rfl ?_
    exact (b_Machine_isTaken_126 hd h).less e_sn
  · have h := h.2 c
    refine r_iconst (kd49 rfl) (y := 1) (by decide) rfl ?_
    refine r_goto (kd49 rfl) ?_
    exact (b_Machine_isTaken_126 hd h).less e_sn
def w_Machine_isTaken_107 (l1 : Int32) (s0 : Int32) (M : eM) (Q : Int32 → eM → Prop) : Prop := (¬ l1 = 36 → w_Machine_isTaken_118 0 s0 M Q) ∧ (l1 = 36 → w_Machine_isTaken_118 1 s0 M Q)
theorem b_Machine_isTaken_107 {d : Nat} {l1 : Int32} {s0 : Int32} {M : eM} {Q : Int32 → eM → Prop} (hd : 2 ≤ d) (h : w_Machine_isTaken_107 l1 s0 M Q ) : e_E 49 d 0 0 107 [(1, .int l1)] [.int s0] M (e_QI Q) := by
  unfold w_Machine_isTaken_107 at h
  refine r_iload_n (kd49 rfl) rfl rfl ?_
  refine r_bipush (kd49 rfl) (y := 36) (by decide) rfl ?_
  refine r_icmp_ne (kd49 rfl) rfl (fun c => ?_) (fun c => ?_)
  · have h := h.1 c
    refine r_iconst (kd49 rfl) (y := 0) (by decide) rfl ?_
    exact (b_Machine_isTaken_118 hd h).less e_sn
  · have h := h.2 c
    refine r_iconst (kd49 rfl) (y := 1) (by decide) rfl ?_
    refine r_goto (kd49 rfl) ?_
    exact (b_Machine_isTaken_118 hd h).less e_sn
def w_Machine_isTaken (l0 : Nat) (l1 : Int32) (M : eM) (Q : Int32 → eM → Prop) : Prop := (¬ l1 = 21 → e_ob M l0 4 ∧ e_ob M (gr M l0 0) 2 ∧ w_Frames_pop (gr M l0 0) M (fun (v2 : Int32) (M1 : eM) => (28 ≤ l1 → (l1 = 34 → w_Machine_isTaken_44 l1 v2 M1 Q) ∧ (¬ l1 = 34 → (¬ l1 = 35 → e_ob M1 l0 4 ∧ e_ob M1 (gr M1 l0 0) 2 ∧ w_Frames_pop (gr M1 l0 0) M1 (fun (v4 : Int32) (M3 : eM) => (34 ≤ l1 → (¬ v4 = v2 → w_Machine_isTaken_107 l1 0 M3 Q) ∧ (v4 = v2 → w_Machine_isTaken_107 l1 1 M3 Q)) ∧ (¬ 34 ≤ l1 → w_Machine_compares (l1 - 28) v4 v2 M3 (fun (v6 : Int32) (M5 : eM) => (v6 = 0 ∨ v6 = 1) ∧ Q v6 M5)))) ∧ (l1 = 35 → w_Machine_isTaken_44 l1 v2 M1 Q))) ∧ (¬ 28 ≤ l1 → w_Machine_compares (l1 - 22) v2 0 M1 (fun (v8 : Int32) (M7 : eM) => (v8 = 0 ∨ v8 = 1) ∧ Q v8 M7)))) ∧ (l1 = 21 → ((1 : Int32) = 0 ∨ (1 : Int32) = 1) ∧ Q (1 : Int32) M)
theorem b_Machine_isTaken {d : Nat} {l0 : Nat} {l1 : Int32} {M : eM} {Q : Int32 → eM → Prop} (hd : 2 ≤ d) (h : w_Machine_isTaken l0 l1 M Q) : e_CI 49 d 0 0 [.ref l0, .int l1] M Q := by
  unfold w_Machine_isTaken at h
  show e_E 49 d 0 0 0 [(0, .ref l0), (1, .int l1)] [] M (e_QI Q)
  refine r_iload_n (kd49 rfl) rfl rfl ?_
  refine r_bipush (kd49 rfl) (y := 21) (by decide) rfl ?_
  refine r_icmp_ne (kd49 rfl) rfl (fun c => ?_) (fun c => ?_)
  · have h := h.1 c
    refine r_aload_n (kd49 rfl) rfl rfl ?_
    obtain ⟨g, h⟩ := h
    refine r_get2 (kd49 rfl) (by decide) rfl g rfl ?_
    obtain ⟨g, h⟩ := h
    refine r_callVI (d' := d - 1) (by omega) (kd49 rfl) (by decide) rfl rfl rfl rfl (Nat.le_of_ble_eq_true rfl) rfl L17 (Nat.le_of_ble_eq_true rfl) (Nat.le_of_ble_eq_true rfl) g (Nat.zero_le _) (Nat.zero_le _) rfl rfl rfl (b_Frames_pop (by omega) h) (fun x1 M1 h => ?_)
    refine r_istore_n (kd49 rfl) L49 (by decide) rfl rfl ?_
    refine r_iload_n (kd49 rfl) rfl rfl ?_
    refine r_bipush (kd49 rfl) (y := 28) (by decide) rfl ?_
    refine r_icmp_ge (kd49 rfl) rfl (fun c => ?_) (fun c => ?_)
    · have h := h.1 c
      refine r_iload_n (kd49 rfl) rfl rfl ?_
      refine r_bipush (kd49 rfl) (y := 34) (by decide) rfl ?_
      refine r_icmp_eq (kd49 rfl) rfl (fun c => ?_) (fun c => ?_)
      · have h := h.1 c
        exact (b_Machine_isTaken_44 hd h).less (e_sc (List.mem_of_getElem? (i := 2) rfl) (e_sc (List.mem_of_getElem? (i := 0) rfl) e_sn))
      · have h := h.2 c
        refine r_iload_n (kd49 rfl) rfl rfl ?_
        refine r_bipush (kd49 rfl) (y := 35) (by decide) rfl ?_
        refine r_icmp_ne (kd49 rfl) rfl (fun c => ?_) (fun c => ?_)
        · have h := h.1 c
          refine r_aload_n (kd49 rfl) rfl rfl ?_
          obtain ⟨g, h⟩ := h
          refine r_get2 (kd49 rfl) (by decide) rfl g rfl ?_
          obtain ⟨g, h⟩ := h
          refine r_callVI (d' := d - 1) (by omega) (kd49 rfl) (by decide) rfl rfl rfl rfl (Nat.le_of_ble_eq_true rfl) rfl L17 (Nat.le_of_ble_eq_true rfl) (Nat.le_of_ble_eq_true rfl) g (Nat.zero_le _) (Nat.zero_le _) rfl rfl rfl (b_Frames_pop (by omega) h) (fun x1 M1 h => ?_)
          refine r_istore_n (kd49 rfl) L49 (by decide) rfl rfl ?_
          refine r_iload_n (kd49 rfl) rfl rfl ?_
          refine r_bipush (kd49 rfl) (y := 34) (by decide) rfl ?_
          refine r_icmp_ge (kd49 rfl) rfl (fun c => ?_) (fun c => ?_)
          · have h := h.1 c
            refine r_iload_n (kd49 rfl) rfl rfl ?_
            refine r_iload_n (kd49 rfl) rfl rfl ?_
            refine r_icmp_ne (kd49 rfl) rfl (fun c => ?_) (fun c => ?_)
            · have h := h.1 c
              refine r_iconst (kd49 rfl) (y := 0) (by decide) rfl ?_
              exact (b_Machine_isTaken_107 hd h).less (e_sc (List.mem_of_getElem? (i := 3) rfl) e_sn)
            · have h := h.2 c
              refine r_iconst (kd49 rfl) (y := 1) (by decide) rfl ?_
              refine r_goto (kd49 rfl) ?_
              exact (b_Machine_isTaken_107 hd h).less (e_sc (List.mem_of_getElem? (i := 3) rfl) e_sn)
          · have h := h.2 c
            refine r_iload_n (kd49 rfl) rfl rfl ?_
            refine r_bipush (kd49 rfl) (y := 28) (by decide) rfl ?_
            refine r_isub (kd49 rfl) rfl ?_
            refine r_iload_n (kd49 rfl) rfl rfl ?_
            refine r_iload_n (kd49 rfl) rfl rfl ?_
            refine r_callSI (d' := d - 1) (by omega) (kd49 rfl) (by decide) rfl rfl rfl rfl (Nat.le_of_ble_eq_true rfl) rfl L50 (Nat.le_of_ble_eq_true rfl) (Nat.le_of_ble_eq_true rfl) (Nat.zero_le _) (Nat.zero_le _) rfl rfl rfl (b_Machine_compares (by omega) h) (fun x1 M1 h => ?_)
            exact r_zreturn (kd49 rfl) R49 h.1 h.2
        · have h := h.2 c
          exact (b_Machine_isTaken_44 hd h).less (e_sc (List.mem_of_getElem? (i := 2) rfl) (e_sc (List.mem_of_getElem? (i := 0) rfl) e_sn))
    · have h := h.2 c
      refine r_iload_n (kd49 rfl) rfl rfl ?_
      refine r_bipush (kd49 rfl) (y := 22) (by decide) rfl ?_
      refine r_isub (kd49 rfl) rfl ?_
      refine r_iload_n (kd49 rfl) rfl rfl ?_
      refine r_iconst (kd49 rfl) (y := 0) (by decide) rfl ?_
      refine r_callSI (d' := d - 1) (by omega) (kd49 rfl) (by decide) rfl rfl rfl rfl (Nat.le_of_ble_eq_true rfl) rfl L50 (Nat.le_of_ble_eq_true rfl) (Nat.le_of_ble_eq_true rfl) (Nat.zero_le _) (Nat.zero_le _) rfl rfl rfl (b_Machine_compares (by omega) h) (fun x1 M1 h => ?_)
      exact r_zreturn (kd49 rfl) R49 h.1 h.2
  · have h := h.2 c
    refine r_iconst (kd49 rfl) (y := 1) (by decide) rfl ?_
    exact r_zreturn (kd49 rfl) R49 h.1 h.2
/-- TierMill$Machine.jump(I)I -/
theorem kd47 {pc : Nat} {q : eI} (h : e_d47.lookup pc = some q) : e_dec 47 pc = some q := h
theorem L47 : (e_m 47).2.2.1 = 5 := rfl
theorem R47 : (e_m 47).2.2.2.1 = (some .int) := rfl
def w_Machine_jump_116 (l0 : Nat) (l2 : Int32) (l4 : Int32) (M : eM) (Q : Int32 → eM → Prop) : Prop := e_ob M l0 4 ∧ e_ob M (gr M l0 0) 2 ∧ e_ar M (gr M (gr M l0 0) 2) 20 l2 ∧ ∀ M7 : eM, M7 = e_si M (gr M (gr M l0 0) 2) l2.toNatClampNeg l4 → Q (0 : Int32) M7
theorem b_Machine_jump_116 {d : Nat} {l0 : Nat} {l2 : Int32} {l4 : Int32} {M : eM} {Q : Int32 → eM → Prop} (hd : 3 ≤ d) (h : w_Machine_jump_116 l0 l2 l4 M Q ) : e_E 47 d 0 0 116 [(0, .ref l0), (2, .int l2), (4, .int l4)] [] M (e_QI Q) := by
  unfold w_Machine_jump_116 at h
  refine r_aload_n (kd47 rfl) rfl rfl ?_
  obtain ⟨g, h⟩ := h
  refine r_get2 (kd47 rfl) (by decide) rfl g rfl ?_
  obtain ⟨g, h⟩ := h
  refine r_get2 (kd47 rfl) (by decide) rfl g rfl ?_
  refine r_iload_n (kd47 rfl) rfl rfl ?_
  refine r_iload (kd47 rfl) rfl rfl ?_
  obtain ⟨g, h⟩ := h
  have h := h _ rfl
  refine r_iastore (kd47 rfl) g rfl ?_
  refine r_iconst (kd47 rfl) (y := 0) (by decide) rfl ?_
  exact r_ireturn (kd47 rfl) R47 h
def w_Machine_jump_77 (l0 : Nat) (l2 : Int32) (l3 : Int32) (l4 : Int32) (M : eM) (Q : Int32 → eM → Prop) : Prop := e_ob M l0 4 ∧ e_ob M (gr M l0 0) 2 ∧ e_ai M (gr M (gr M l0 0) 3) l2 ∧ (¬ (gi M (gr M (gr M l0 0) 3) l2.toNatClampNeg) = 0 → w_Machine_jump_116 l0 l2 l4 M Q) ∧ ((gi M (gr M (gr M l0 0) 3) l2.toNatClampNeg) = 0 → (l3 < l4 → w_Machine_jump_116 l0 l2 l4 M Q) ∧ (¬ l3 < l4 → e_ob M l0 4 ∧ e_ob M (gr M l0 2) 9 ∧ e_ob M l0 4 ∧ e_ob M (gr M l0 0) 2 ∧ e_ai M (gr M (gr M l0 0) 1) l2 ∧ e_ai M (gr M (gr M l0 2) 4) (gi M (gr M (gr M l0 0) 1) l2.toNatClampNeg) ∧ e_ar M (gr M (gr M l0 2) 4) 20 (gi M (gr M (gr M l0 0) 1) l2.toNatClampNeg) ∧ ∀ M6 : eM, M6 = e_si M (gr M (gr M l0 2) 4) (gi M (gr M (gr M l0 0) 1) l2.toNatClampNeg).toNatClampNeg ((gi M (gr M (gr M l0 2) 4) (gi M (gr M (gr M l0 0) 1) l2.toNatClampNeg).toNatClampNeg) + 1) → w_Machine_jump_116 l0 l2 l4 M6 Q))
theorem b_Machine_jump_77 {d : Nat} {l0 : Nat} {l2 : Int32} {l3 : Int32} {l4 : Int32} {M : eM} {Q : Int32 → eM → Prop} (hd : 3 ≤ d) (h : w_Machine_jump_77 l0 l2 l3 l4 M Q ) : e_E 47 d 0 0 77 [(0, .ref l0), (2, .int l2), (3, .int l3), (4, .int l4)] [] M (e_QI Q) := by
  unfold w_Machine_jump_77 at h
  refine r_aload_n (kd47 rfl) rfl rfl ?_
  obtain ⟨g, h⟩ := h
  refine r_get2 (kd47 rfl) (by decide) rfl g rfl ?_
  obtain ⟨g, h⟩ := h
  refine r_get2 (kd47 rfl) (by decide) rfl g rfl ?_
  refine r_iload_n (kd47 rfl) rfl rfl ?_
  obtain ⟨g, h⟩ := h
  refine r_iaload (kd47 rfl) g rfl ?_
  refine r_if_ne (kd47 rfl) rfl (fun c => ?_) (fun c => ?_)
  · have h := h.1 c
    exact (b_Machine_jump_116 hd h).less (e_sc (List.mem_of_getElem? (i := 0) rfl) (e_sc (List.mem_of_getElem? (i := 1) rfl) (e_sc (List.mem_of_getElem? (i := 3) rfl) e_sn)))
  · have h := h.2 c
    refine r_iload (kd47 rfl) rfl rfl ?_
    refine r_iload_n (kd47 rfl) rfl rfl ?_
    refine r_icmp_gt (kd47 rfl) rfl (fun c => ?_) (fun c => ?_)
    · have h := h.1 c
      exact (b_Machine_jump_116 hd h).less (e_sc (List.mem_of_getElem? (i := 0) rfl) (e_sc (List.mem_of_getElem? (i := 1) rfl) (e_sc (List.mem_of_getElem? (i := 3) rfl) e_sn)))
    · have h := h.2 c
      refine r_aload_n (kd47 rfl) rfl rfl ?_
      obtain ⟨g, h⟩ := h
      refine r_get2 (kd47 rfl) (by decide) rfl g rfl ?_
      obtain ⟨g, h⟩ := h
      refine r_get2 (kd47 rfl) (by decide) rfl g rfl ?_
      refine r_aload_n (kd47 rfl) rfl rfl ?_
      obtain ⟨g, h⟩ := h
      refine r_get2 (kd47 rfl) (by decide) rfl g rfl ?_
      obtain ⟨g, h⟩ := h
      refine r_get2 (kd47 rfl) (by decide) rfl g rfl ?_
      refine r_iload_n (kd47 rfl) rfl rfl ?_
      obtain ⟨g, h⟩ := h
      refine r_iaload (kd47 rfl) g rfl ?_
      refine r_dup2 (kd47 rfl) rfl rfl rfl ?_
      obtain ⟨g, h⟩ := h
      refine r_iaload (kd47 rfl) g rfl ?_
      refine r_iconst (kd47 rfl) (y := 1) (by decide) rfl ?_
      refine r_iadd (kd47 rfl) rfl ?_
      obtain ⟨g, h⟩ := h
      have h := h _ rfl
      refine r_iastore (kd47 rfl) g rfl ?_
      exact (b_Machine_jump_116 hd h).less (e_sc (List.mem_of_getElem? (i := 0) rfl) (e_sc (List.mem_of_getElem? (i := 1) rfl) (e_sc (List.mem_of_getElem? (i := 3) rfl) e_sn)))
def w_Machine_jump_47 (l0 : Nat) (l1 : Int32) (l2 : Int32) (l3 : Int32) (s0 : Int32) (M : eM) (Q : Int32 → eM → Prop) : Prop := (l1 = 53 → w_Machine_jump_77 l0 l2 l3 s0 M Q) ∧ (¬ l1 = 53 → e_ob M l0 4 ∧ w_Machine_isTaken l0 l1 M (fun (v4 : Int32) (M3 : eM) => (¬ v4 = 0 → w_Machine_jump_77 l0 l2 l3 s0 M3 Q) ∧ (v4 = 0 → e_ob M3 l0 4 ∧ e_ai M3 2 l1 ∧ e_ob M3 (gr M3 l0 0) 2 ∧ w_Frames_goOn (gr M3 l0 0) (gi M3 2 l1.toNatClampNeg) M3 (fun (M5 : eM) => Q (0 : Int32) M5))))
theorem b_Machine_jump_47 {d : Nat} {l0 : Nat} {l1 : Int32} {l2 : Int32} {l3 : Int32} {s0 : Int32} {M : eM} {Q : Int32 → eM → Prop} (hd : 3 ≤ d) (h : w_Machine_jump_47 l0 l1 l2 l3 s0 M Q ) : e_E 47 d 0 0 47 [(0, .ref l0), (1, .int l1), (2, .int l2), (3, .int l3)] [.int s0] M (e_QI Q) := by
  unfold w_Machine_jump_47 at h
  refine r_istore (kd47 rfl) L47 (by decide) rfl rfl ?_
  refine r_iload_n (kd47 rfl) rfl rfl ?_
  refine r_bipush (kd47 rfl) (y := 53) (by decide) rfl ?_
  refine r_icmp_eq (kd47 rfl) rfl (fun c => ?_) (fun c => ?_)
  · have h := h.1 c
    exact (b_Machine_jump_77 hd h).less (e_sc (List.mem_of_getElem? (i := 1) rfl) (e_sc (List.mem_of_getElem? (i := 3) rfl) (e_sc (List.mem_of_getElem? (i := 4) rfl) (e_sc (List.mem_of_getElem? (i := 0) rfl) e_sn))))
  · have h := h.2 c
    refine r_aload_n (kd47 rfl) rfl rfl ?_
    refine r_iload_n (kd47 rfl) rfl rfl ?_
    obtain ⟨g, h⟩ := h
    refine r_callVI (d' := d - 1) (by omega) (kd47 rfl) (by decide) rfl rfl rfl rfl (Nat.le_of_ble_eq_true rfl) rfl L49 (Nat.le_of_ble_eq_true rfl) (Nat.le_of_ble_eq_true rfl) g (Nat.zero_le _) (Nat.zero_le _) rfl rfl rfl (b_Machine_isTaken (by omega) h) (fun x1 M1 h => ?_)
    refine r_if_ne (kd47 rfl) rfl (fun c => ?_) (fun c => ?_)
    · have h := h.1 c
      exact (b_Machine_jump_77 hd h).less (e_sc (List.mem_of_getElem? (i := 1) rfl) (e_sc (List.mem_of_getElem? (i := 3) rfl) (e_sc (List.mem_of_getElem? (i := 4) rfl) (e_sc (List.mem_of_getElem? (i := 0) rfl) e_sn))))
    · have h := h.2 c
      refine r_aload_n (kd47 rfl) rfl rfl ?_
      obtain ⟨g, h⟩ := h
      refine r_get2 (kd47 rfl) (by decide) rfl g rfl ?_
      refine r_getstatic (kd47 rfl) (by decide) rfl ?_
      refine r_iload_n (kd47 rfl) rfl rfl ?_
      obtain ⟨g, h⟩ := h
      refine r_iaload (kd47 rfl) g rfl ?_
      obtain ⟨g, h⟩ := h
      refine r_callVV (d' := d - 1) (by omega) (kd47 rfl) (by decide) rfl rfl rfl rfl (Nat.le_of_ble_eq_true rfl) rfl L19 (Nat.le_of_ble_eq_true rfl) (Nat.le_of_ble_eq_true rfl) g (Nat.zero_le _) (Nat.zero_le _) rfl rfl rfl (b_Frames_goOn (by omega) h) (fun M1 h => ?_)
      refine r_iconst (kd47 rfl) (y := 0) (by decide) rfl ?_
      exact r_ireturn (kd47 rfl) R47 h
def w_Machine_jump (l0 : Nat) (l1 : Int32) (M : eM) (Q : Int32 → eM → Prop) : Prop := e_ob M l0 4 ∧ e_ob M (gr M l0 0) 2 ∧ e_ob M l0 4 ∧ e_ob M (gr M l0 0) 2 ∧ e_ai M (gr M (gr M l0 0) 2) ((gi M (gr M l0 0) 0) - 1) ∧ (¬ l1 = 53 → e_ob M l0 4 ∧ e_ob M (gr M l0 14) 6 ∧ e_ob M l0 4 ∧ e_ai M (gr M (gr M l0 14) 0) ((gi M l0 15) + 1) ∧ w_Machine_jump_47 l0 l1 ((gi M (gr M l0 0) 0) - 1) (gi M (gr M (gr M l0 0) 2) ((gi M (gr M l0 0) 0) - 1).toNatClampNeg) (gi M (gr M (gr M l0 14) 0) ((gi M l0 15) + 1).toNatClampNeg) M Q) ∧ (l1 = 53 → e_ob M l0 4 ∧ w_Machine_chosen l0 M (fun (v2 : Int32) (M1 : eM) => w_Machine_jump_47 l0 l1 ((gi M (gr M l0 0) 0) - 1) (gi M (gr M (gr M l0 0) 2) ((gi M (gr M l0 0) 0) - 1).toNatClampNeg) v2 M1 Q))
theorem b_Machine_jump {d : Nat} {l0 : Nat} {l1 : Int32} {M : eM} {Q : Int32 → eM → Prop} (hd : 3 ≤ d) (h : w_Machine_jump l0 l1 M Q) : e_CI 47 d 0 0 [.ref l0, .int l1] M Q := by
  unfold w_Machine_jump at h
  show e_E 47 d 0 0 0 [(0, .ref l0), (1, .int l1)] [] M (e_QI Q)
  refine r_aload_n (kd47 rfl) rfl rfl ?_
  obtain ⟨g, h⟩ := h
  refine r_get2 (kd47 rfl) (by decide) rfl g rfl ?_
  obtain ⟨g, h⟩ := h
  refine r_get0 (kd47 rfl) (by decide) rfl g rfl ?_
  refine r_iconst (kd47 rfl) (y := 1) (by decide) rfl ?_
  refine r_isub (kd47 rfl) rfl ?_
  refine r_istore_n (kd47 rfl) L47 (by decide) rfl rfl ?_
  refine r_aload_n (kd47 rfl) rfl rfl ?_
  obtain ⟨g, h⟩ := h
  refine r_get2 (kd47 rfl) (by decide) rfl g rfl ?_
  obtain ⟨g, h⟩ := h
  refine r_get2 (kd47 rfl) (by decide) rfl g rfl ?_
  refine r_iload_n (kd47 rfl) rfl rfl ?_
  obtain ⟨g, h⟩ := h
  refine r_iaload (kd47 rfl) g rfl ?_
  refine r_istore_n (kd47 rfl) L47 (by decide) rfl rfl ?_
  refine r_iload_n (kd47 rfl) rfl rfl ?_
  refine r_bipush (kd47 rfl) (y := 53) (by decide) rfl ?_
  refine r_icmp_ne (kd47 rfl) rfl (fun c => ?_) (fun c => ?_)
  · have h := h.1 c
    refine r_aload_n (kd47 rfl) rfl rfl ?_
    obtain ⟨g, h⟩ := h
    refine r_get2 (kd47 rfl) (by decide) rfl g rfl ?_
    obtain ⟨g, h⟩ := h
    refine r_get2 (kd47 rfl) (by decide) rfl g rfl ?_
    refine r_aload_n (kd47 rfl) rfl rfl ?_
    obtain ⟨g, h⟩ := h
    refine r_get0 (kd47 rfl) (by decide) rfl g rfl ?_
    refine r_iconst (kd47 rfl) (y := 1) (by decide) rfl ?_
    refine r_iadd (kd47 rfl) rfl ?_
    obtain ⟨g, h⟩ := h
    refine r_iaload (kd47 rfl) g rfl ?_
    exact (b_Machine_jump_47 hd h).less (e_sc (List.mem_of_getElem? (i := 2) rfl) (e_sc (List.mem_of_getElem? (i := 3) rfl) (e_sc (List.mem_of_getElem? (i := 1) rfl) (e_sc (List.mem_of_getElem? (i := 0) rfl) e_sn))))
  · have h := h.2 c
    refine r_aload_n (kd47 rfl) rfl rfl ?_
    obtain ⟨g, h⟩ := h
    refine r_callVI (d' := d - 1) (by omega) (kd47 rfl) (by decide) rfl rfl rfl rfl (Nat.le_of_ble_eq_true rfl) rfl L48 (Nat.le_of_ble_eq_true rfl) (Nat.le_of_ble_eq_true rfl) g (Nat.zero_le _) (Nat.zero_le _) rfl rfl rfl (b_Machine_chosen (by omega) h) (fun x1 M1 h => ?_)
    refine r_goto (kd47 rfl) ?_
    exact (b_Machine_jump_47 hd h).less (e_sc (List.mem_of_getElem? (i := 2) rfl) (e_sc (List.mem_of_getElem? (i := 3) rfl) (e_sc (List.mem_of_getElem? (i := 1) rfl) (e_sc (List.mem_of_getElem? (i := 0) rfl) e_sn))))
/-- TierMill$Machine.make(I)I -/
theorem kd51 {pc : Nat} {q : eI} (h : e_d51.lookup pc = some q) : e_dec 51 pc = some q := h
theorem L51 : (e_m 51).2.2.1 = 7 := rfl
theorem R51 : (e_m 51).2.2.2.1 = (some .int) := rfl
def w_Machine_make_174 (kc ks : Nat) (l0 : Nat) (l1 : Int32) (l2 : Int32) (l3 : Int32) (M : eM) (Q : Int32 → eM → Prop) : Prop := e_ob M l0 4 ∧ e_ob M l0 4 ∧ e_ob M (gr M l0 1) 3 ∧ ∃ kc12 ks13 : Nat, kc12 ≤ kc ∧ ks13 ≤ ks ∧ w_Heap_make kc12 ks13 (gr M l0 1) l2 l3 M (fun (v14 : Int32) (M11 : eM) => e_ob M11 (gr M l0 0) 2 ∧ w_Frames_push (gr M l0 0) v14 M11 (fun (M15 : eM) => e_ob M15 l0 4 ∧ e_ai M15 2 l1 ∧ e_ob M15 (gr M15 l0 0) 2 ∧ w_Frames_goOn (gr M15 l0 0) (gi M15 2 l1.toNatClampNeg) M15 (fun (M16 : eM) => Q (0 : Int32) M16)))
theorem b_Machine_make_174 {d : Nat} {kc ks : Nat} {l0 : Nat} {l1 : Int32} {l2 : Int32} {l3 : Int32} {M : eM} {Q : Int32 → eM → Prop} (hd : 4 ≤ d) (h : w_Machine_make_174 kc ks l0 l1 l2 l3 M Q ) : e_E 51 d kc ks 174 [(0, .ref l0), (1, .int l1), (2, .int l2), (3, .int l3)] [] M (e_QI Q) := by
  unfold w_Machine_make_174 at h
  refine r_aload_n (kd51 rfl) rfl rfl ?_
  obtain ⟨g, h⟩ := h
  refine r_get2 (kd51 rfl) (by decide) rfl g rfl ?_
  refine r_aload_n (kd51 rfl) rfl rfl ?_
  obtain ⟨g, h⟩ := h
  refine r_get2 (kd51 rfl) (by decide) rfl g rfl ?_
  refine r_iload_n (kd51 rfl) rfl rfl ?_
  refine r_iload_n (kd51 rfl) rfl rfl ?_
  obtain ⟨g, h⟩ := h
  obtain ⟨mc, ms, q1, q2, h⟩ := h
  refine r_callVI (d' := d - 1) (by omega) (kd51 rfl) (by decide) rfl rfl rfl rfl (Nat.le_of_ble_eq_true rfl) rfl L30 (Nat.le_of_ble_eq_true rfl) (Nat.le_of_ble_eq_true rfl) g q1 q2 rfl rfl rfl (b_Heap_make (by omega) h) (fun x1 M1 h => ?_)
  obtain ⟨g, h⟩ := h
  refine r_callVV (d' := d - 1) (by omega) (kd51 rfl) (by decide) rfl rfl rfl rfl (Nat.le_of_ble_eq_true rfl) rfl L18 (Nat.le_of_ble_eq_true rfl) (Nat.le_of_ble_eq_true rfl) g (Nat.zero_le _) (Nat.zero_le _) rfl rfl rfl (b_Frames_push (by omega) h) (fun M1 h => ?_)
  refine r_aload_n (kd51 rfl) rfl rfl ?_
  obtain ⟨g, h⟩ := h
  refine r_get2 (kd51 rfl) (by decide) rfl g rfl ?_
  refine r_getstatic (kd51 rfl) (by decide) rfl ?_
  refine r_iload_n (kd51 rfl) rfl rfl ?_
  obtain ⟨g, h⟩ := h
  refine r_iaload (kd51 rfl) g rfl ?_
  obtain ⟨g, h⟩ := h
  refine r_callVV (d' := d - 1) (by omega) (kd51 rfl) (by decide) rfl rfl rfl rfl (Nat.le_of_ble_eq_true rfl) rfl L19 (Nat.le_of_ble_eq_true rfl) (Nat.le_of_ble_eq_true rfl) g (Nat.zero_le _) (Nat.zero_le _) rfl rfl rfl (b_Frames_goOn (by omega) h) (fun M1 h => ?_)
  refine r_iconst (kd51 rfl) (y := 0) (by decide) rfl ?_
  exact r_ireturn (kd51 rfl) R51 h
def w_Machine_make_141 (kc ks : Nat) (l0 : Nat) (l1 : Int32) (l2 : Int32) (l3 : Int32) (l4 : Int64) (M : eM) (Q : Int32 → eM → Prop) : Prop := e_ob M l0 4 ∧ e_ob M (gr M l0 1) 3 ∧ w_Heap_hasRoom (gr M l0 1) l4 M (fun (v8 : Int32) (M7 : eM) => (¬ v8 = 0 → (¬ l1 = 41 → w_Machine_make_174 kc ks l0 l1 l2 l3 M7 Q) ∧ (l1 = 41 → e_ob M7 l0 4 ∧ e_ob M7 (gr M7 l0 0) 2 ∧ w_Frames_pop (gr M7 l0 0) M7 (fun (v10 : Int32) (M9 : eM) => w_Machine_make_174 kc ks l0 l1 (l2 + l3) l3 M9 Q))) ∧ (v8 = 0 → Q (6 : Int32) M7))
theorem b_Machine_make_141 {d : Nat} {kc ks : Nat} {l0 : Nat} {l1 : Int32} {l2 : Int32} {l3 : Int32} {l4 : Int64} {M : eM} {Q : Int32 → eM → Prop} (hd : 4 ≤ d) (h : w_Machine_make_141 kc ks l0 l1 l2 l3 l4 M Q ) : e_E 51 d kc ks 141 [(0, .ref l0), (1, .int l1), (2, .int l2), (3, .int l3), (4, .long l4)] [] M (e_QI Q) := by
  unfold w_Machine_make_141 at h
  refine r_aload_n (kd51 rfl) rfl rfl ?_
  obtain ⟨g, h⟩ := h
  refine r_get2 (kd51 rfl) (by decide) rfl g rfl ?_
  refine r_lload (kd51 rfl) rfl rfl ?_
  obtain ⟨g, h⟩ := h
  refine r_callVI (d' := d - 1) (by omega) (kd51 rfl) (by decide) rfl rfl rfl rfl (Nat.le_of_ble_eq_true rfl) rfl L24 (Nat.le_of_ble_eq_true rfl) (Nat.le_of_ble_eq_true rfl) g (Nat.zero_le _) (Nat.zero_le _) rfl rfl rfl (b_Heap_hasRoom (by omega) h) (fun x1 M1 h => ?_)
  refine r_if_ne (kd51 rfl) rfl (fun c => ?_) (fun c => ?_)
  · have h := h.1 c
    refine r_iload_n (kd51 rfl) rfl rfl ?_
    refine r_bipush (kd51 rfl) (y := 41) (by decide) rfl ?_
    refine r_icmp_ne (kd51 rfl) rfl (fun c => ?_) (fun c => ?_)
    · have h := h.1 c
      exact (b_Machine_make_174 hd h).less (e_sc (List.mem_of_getElem? (i := 0) rfl) (e_sc (List.mem_of_getElem? (i := 1) rfl) (e_sc (List.mem_of_getElem? (i := 2) rfl) (e_sc (List.mem_of_getElem? (i := 3) rfl) e_sn))))
    · have h := h.2 c
      refine r_aload_n (kd51 rfl) rfl rfl ?_
      obtain ⟨g, h⟩ := h
      refine r_get2 (kd51 rfl) (by decide) rfl g rfl ?_
      obtain ⟨g, h⟩ := h
      refine r_callVI (d' := d - 1) (by omega) (kd51 rfl) (by decide) rfl rfl rfl rfl (Nat.le_of_ble_eq_true rfl) rfl L17 (Nat.le_of_ble_eq_true rfl) (Nat.le_of_ble_eq_true rfl) g (Nat.zero_le _) (Nat.zero_le _) rfl rfl rfl (b_Frames_pop (by omega) h) (fun x1 M1 h => ?_)
      refine r_pop (kd51 rfl) rfl rfl ?_
      refine r_iload_n (kd51 rfl) rfl rfl ?_
      refine r_iload_n (kd51 rfl) rfl rfl ?_
      refine r_iadd (kd51 rfl) rfl ?_
      refine r_istore_n (kd51 rfl) L51 (by decide) rfl rfl ?_
      exact (b_Machine_make_174 hd h).less (e_sc (List.mem_of_getElem? (i := 1) rfl) (e_sc (List.mem_of_getElem? (i := 2) rfl) (e_sc (List.mem_of_getElem? (i := 0) rfl) (e_sc (List.mem_of_getElem? (i := 3) rfl) e_sn))))
  · have h := h.2 c
    refine r_bipush (kd51 rfl) (y := 6) (by decide) rfl ?_
    exact r_ireturn (kd51 rfl) R51 h
def w_Machine_make_52 (kc ks : Nat) (l0 : Nat) (l1 : Int32) (l2 : Int32) (s0 : Int32) (M : eM) (Q : Int32 → eM → Prop) : Prop := (0 ≤ s0 → e_ob M l0 4 ∧ e_ob M (gr M l0 1) 3 ∧ w_Heap_hasRoom (gr M l0 1) (2 + (s0.toInt64)) M (fun (v4 : Int32) (M3 : eM) => (¬ v4 = 0 → w_Machine_make_141 kc ks l0 l1 l2 s0 (2 + (s0.toInt64)) M3 Q) ∧ (v4 = 0 → e_ob M3 l0 4 ∧ e_ob M3 (gr M3 l0 1) 3 ∧ e_ob M3 l0 4 ∧ e_ob M3 l0 4 ∧ e_ob M3 l0 4 ∧ e_ob M3 (gr M3 l0 1) 3 ∧ w_Heap_collect (gr M3 l0 1) (gr M3 l0 14) (gr M3 l0 0) M3 (fun (M5 : eM) => e_ob M5 l0 4 ∧ e_ob M5 l0 4 ∧ e_ob M5 l0 4 ∧ e_ob M5 (gr M5 l0 0) 2 ∧ e_ob M5 l0 4 ∧ e_ob M5 (gr M5 l0 0) 2 ∧ e_ai M5 (gr M5 (gr M5 l0 0) 1) ((gi M5 (gr M5 l0 0) 0) - 1) ∧ e_ob M5 l0 4 ∧ e_ob M5 (gr M5 l0 1) 3 ∧ e_ob M5 (gr M5 l0 3) 1 ∧ w_Entries_add (gr M5 l0 3) 3 (gi M5 l0 9) (gi M5 (gr M5 (gr M5 l0 0) 1) ((gi M5 (gr M5 l0 0) 0) - 1).toNatClampNeg) (gi M3 (gr M3 l0 1) 1) (gi M5 (gr M5 l0 1) 1) M5 (fun (M6 : eM) => w_Machine_make_141 kc ks l0 l1 l2 s0 (2 + (s0.toInt64)) M6 Q))))) ∧ (¬ 0 ≤ s0 → Q (4 : Int32) M)
theorem b_Machine_make_52 {d : Nat} {kc ks : Nat} {l0 : Nat} {l1 : Int32} {l2 : Int32} {s0 : Int32} {M : eM} {Q : Int32 → eM → Prop} (hd : 4 ≤ d) (h : w_Machine_make_52 kc ks l0 l1 l2 s0 M Q ) : e_E 51 d kc ks 52 [(0, .ref l0), (1, .int l1), (2, .int l2)] [.int s0] M (e_QI Q) := by
  unfold w_Machine_make_52 at h
  refine r_istore_n (kd51 rfl) L51 (by decide) rfl rfl ?_
  refine r_iload_n (kd51 rfl) rfl rfl ?_
  refine r_if_ge (kd51 rfl) rfl (fun c => ?_) (fun c => ?_)
  · have h := h.1 c
    refine r_ldc2_w (kd51 rfl) (y := 2) (by decide) rfl ?_
    refine r_iload_n (kd51 rfl) rfl rfl ?_
    refine r_i2l (kd51 rfl) rfl ?_
    refine r_ladd (kd51 rfl) rfl ?_
    refine r_lstore (kd51 rfl) L51 (by decide) rfl rfl ?_
    refine r_aload_n (kd51 rfl) rfl rfl ?_
    obtain ⟨g, h⟩ := h
    refine r_get2 (kd51 rfl) (by decide) rfl g rfl ?_
    refine r_lload (kd51 rfl) rfl rfl ?_
    obtain ⟨g, h⟩ := h
    refine r_callVI (d' := d - 1) (by omega) (kd51 rfl) (by decide) rfl rfl rfl rfl (Nat.le_of_ble_eq_true rfl) rfl L24 (Nat.le_of_ble_eq_true rfl) (Nat.le_of_ble_eq_true rfl) g (Nat.zero_le _) (Nat.zero_le _) rfl rfl rfl (b_Heap_hasRoom (by omega) h) (fun x1 M1 h => ?_)
    refine r_if_ne (kd51 rfl) rfl (fun c => ?_) (fun c => ?_)
    · have h := h.1 c
      exact (b_Machine_make_141 hd h).less (e_sc (List.mem_of_getElem? (i := 2) rfl) (e_sc (List.mem_of_getElem? (i := 3) rfl) (e_sc (List.mem_of_getElem? (i := 4) rfl) (e_sc (List.mem_of_getElem? (i := 1) rfl) (e_sc (List.mem_of_getElem? (i := 0) rfl) e_sn)))))
    · have h := h.2 c
      refine r_aload_n (kd51 rfl) rfl rfl ?_
      obtain ⟨g, h⟩ := h
      refine r_get2 (kd51 rfl) (by decide) rfl g rfl ?_
      obtain ⟨g, h⟩ := h
      refine r_get0 (kd51 rfl) (by decide) rfl g rfl ?_
      refine r_istore (kd51 rfl) L51 (by decide) rfl rfl ?_
      refine r_aload_n (kd51 rfl) rfl rfl ?_
      obtain ⟨g, h⟩ := h
      refine r_get2 (kd51 rfl) (by decide) rfl g rfl ?_
      refine r_aload_n (kd51 rfl) rfl rfl ?_
      obtain ⟨g, h⟩ := h
      refine r_get2 (kd51 rfl) (by decide) rfl g rfl ?_
      refine r_aload_n (kd51 rfl) rfl rfl ?_
      obtain ⟨g, h⟩ := h
      refine r_get2 (kd51 rfl) (by decide) rfl g rfl ?_
      obtain ⟨g, h⟩ := h
      refine r_callVV (d' := d - 1) (by omega) (kd51 rfl) (by decide) rfl rfl rfl rfl (Nat.le_of_ble_eq_true rfl) rfl L31 (Nat.le_of_ble_eq_true rfl) (Nat.le_of_ble_eq_true rfl) g (Nat.zero_le _) (Nat.zero_le _) rfl rfl rfl (b_Heap_collect (by omega) h) (fun M1 h => ?_)
      refine r_aload_n (kd51 rfl) rfl rfl ?_
      obtain ⟨g, h⟩ := h
      refine r_get2 (kd51 rfl) (by decide) rfl g rfl ?_
      refine r_iconst (kd51 rfl) (y := 3) (by decide) rfl ?_
      refine r_aload_n (kd51 rfl) rfl rfl ?_
      obtain ⟨g, h⟩ := h
      refine r_get0 (kd51 rfl) (by decide) rfl g rfl ?_
      refine r_aload_n (kd51 rfl) rfl rfl ?_
      obtain ⟨g, h⟩ := h
      refine r_get2 (kd51 rfl) (by decide) rfl g rfl ?_
      obtain ⟨g, h⟩ := h
      refine r_get2 (kd51 rfl) (by decide) rfl g rfl ?_
      refine r_aload_n (kd51 rfl) rfl rfl ?_
      obtain ⟨g, h⟩ := h
      refine r_get2 (kd51 rfl) (by decide) rfl g rfl ?_
      obtain ⟨g, h⟩ := h
      refine r_get0 (kd51 rfl) (by decide) rfl g rfl ?_
      refine r_iconst (kd51 rfl) (y := 1) (by decide) rfl ?_
      refine r_isub (kd51 rfl) rfl ?_
      obtain ⟨g, h⟩ := h
      refine r_iaload (kd51 rfl) g rfl ?_
      refine r_iload (kd51 rfl) rfl rfl ?_
      refine r_aload_n (kd51 rfl) rfl rfl ?_
      obtain ⟨g, h⟩ := h
      refine r_get2 (kd51 rfl) (by decide) rfl g rfl ?_
      obtain ⟨g, h⟩ := h
      refine r_get0 (kd51 rfl) (by decide) rfl g rfl ?_
      obtain ⟨g, h⟩ := h
      refine r_callVV (d' := d - 1) (by omega) (kd51 rfl) (by decide) rfl rfl rfl rfl (Nat.le_of_ble_eq_true rfl) rfl L9 (Nat.le_of_ble_eq_true rfl) (Nat.le_of_ble_eq_true rfl) g (Nat.zero_le _) (Nat.zero_le _) rfl rfl rfl (b_Entries_add (by omega) h) (fun M1 h => ?_)
      exact (b_Machine_make_141 hd h).less (e_sc (List.mem_of_getElem? (i := 3) rfl) (e_sc (List.mem_of_getElem? (i := 4) rfl) (e_sc (List.mem_of_getElem? (i := 5) rfl) (e_sc (List.mem_of_getElem? (i := 2) rfl) (e_sc (List.mem_of_getElem? (i := 1) rfl) e_sn)))))
  · have h := h.2 c
    refine r_iconst (kd51 rfl) (y := 4) (by decide) rfl ?_
    exact r_ireturn (kd51 rfl) R51 h
def w_Machine_make_25 (kc ks : Nat) (l0 : Nat) (l1 : Int32) (s0 : Int32) (M : eM) (Q : Int32 → eM → Prop) : Prop := (¬ l1 = 38 → e_ob M l0 4 ∧ e_ob M (gr M l0 0) 2 ∧ w_Frames_peek (gr M l0 0) 0 M (fun (v2 : Int32) (M1 : eM) => w_Machine_make_52 kc ks l0 l1 s0 v2 M1 Q)) ∧ (l1 = 38 → e_ob M l0 4 ∧ e_ob M (gr M l0 14) 6 ∧ e_ai M (gr M (gr M l0 14) 5) s0 ∧ w_Machine_make_52 kc ks l0 l1 s0 (gi M (gr M (gr M l0 14) 5) s0.toNatClampNeg) M Q)
theorem b_Machine_make_25 {d : Nat} {kc ks : Nat} {l0 : Nat} {l1 : Int32} {s0 : Int32} {M : eM} {Q : Int32 → eM → Prop} (hd : 4 ≤ d) (h : w_Machine_make_25 kc ks l0 l1 s0 M Q ) : e_E 51 d kc ks 25 [(0, .ref l0), (1, .int l1)] [.int s0] M (e_QI Q) := by
  unfold w_Machine_make_25 at h
  refine r_istore_n (kd51 rfl) L51 (by decide) rfl rfl ?_
  refine r_iload_n (kd51 rfl) rfl rfl ?_
  refine r_bipush (kd51 rfl) (y := 38) (by decide) rfl ?_
  refine r_icmp_ne (kd51 rfl) rfl (fun c => ?_) (fun c => ?_)
  · have h := h.1 c
    refine r_aload_n (kd51 rfl) rfl rfl ?_
    obtain ⟨g, h⟩ := h
    refine r_get2 (kd51 rfl) (by decide) rfl g rfl ?_
    refine r_iconst (kd51 rfl) (y := 0) (by decide) rfl ?_
    obtain ⟨g, h⟩ := h
    refine r_callVI (d' := d - 1) (by omega) (kd51 rfl) (by decide) rfl rfl rfl rfl (Nat.le_of_ble_eq_true rfl) rfl L16 (Nat.le_of_ble_eq_true rfl) (Nat.le_of_ble_eq_true rfl) g (Nat.zero_le _) (Nat.zero_le _) rfl rfl rfl (b_Frames_peek (by omega) h) (fun x1 M1 h => ?_)
    exact (b_Machine_make_52 hd h).less (e_sc (List.mem_of_getElem? (i := 1) rfl) (e_sc (List.mem_of_getElem? (i := 2) rfl) (e_sc (List.mem_of_getElem? (i := 0) rfl) e_sn)))
  · have h := h.2 c
    refine r_aload_n (kd51 rfl) rfl rfl ?_
    obtain ⟨g, h⟩ := h
    refine r_get2 (kd51 rfl) (by decide) rfl g rfl ?_
    obtain ⟨g, h⟩ := h
    refine r_get2 (kd51 rfl) (by decide) rfl g rfl ?_
    refine r_iload_n (kd51 rfl) rfl rfl ?_
    obtain ⟨g, h⟩ := h
    refine r_iaload (kd51 rfl) g rfl ?_
    refine r_goto (kd51 rfl) ?_
    exact (b_Machine_make_52 hd h).less (e_sc (List.mem_of_getElem? (i := 1) rfl) (e_sc (List.mem_of_getElem? (i := 2) rfl) (e_sc (List.mem_of_getElem? (i := 0) rfl) e_sn)))
def w_Machine_make (kc ks : Nat) (l0 : Nat) (l1 : Int32) (M : eM) (Q : Int32 → eM → Prop) : Prop := (¬ l1 = 38 → w_Machine_make_25 kc ks l0 l1 16 M Q) ∧ (l1 = 38 → e_ob M l0 4 ∧ e_ob M (gr M l0 14) 6 ∧ e_ob M l0 4 ∧ e_ai M (gr M (gr M l0 14) 0) ((gi M l0 15) + 1) ∧ w_Machine_make_25 kc ks l0 l1 (gi M (gr M (gr M l0 14) 0) ((gi M l0 15) + 1).toNatClampNeg) M Q)
theorem b_Machine_make {d : Nat} {kc ks : Nat} {l0 : Nat} {l1 : Int32} {M : eM} {Q : Int32 → eM → Prop} (hd : 4 ≤ d) (h : w_Machine_make kc ks l0 l1 M Q) : e_CI 51 d kc ks [.ref l0, .int l1] M Q := by
  unfold w_Machine_make at h
  show e_E 51 d kc ks 0 [(0, .ref l0), (1, .int l1)] [] M (e_QI Q)
  refine r_iload_n (kd51 rfl) rfl rfl ?_
  refine r_bipush (kd51 rfl) (y := 38) (by decide) rfl ?_
  refine r_icmp_ne (kd51 rfl) rfl (fun c => ?_) (fun c => ?_)
  · have h := h.1 c
    refine r_bipush (kd51 rfl) (y := 16) (by decide) rfl ?_
    exact (b_Machine_make_25 hd h).less (e_sc (List.mem_of_getElem? (i := 0) rfl) (e_sc (List.mem_of_getElem? (i := 1) rfl) e_sn))
  · have h := h.2 c
    refine r_aload_n (kd51 rfl) rfl rfl ?_
    obtain ⟨g, h⟩ := h
    refine r_get2 (kd51 rfl) (by decide) rfl g rfl ?_
    obtain ⟨g, h⟩ := h
    refine r_get2 (kd51 rfl) (by decide) rfl g rfl ?_
    refine r_aload_n (kd51 rfl) rfl rfl ?_
    obtain ⟨g, h⟩ := h
    refine r_get0 (kd51 rfl) (by decide) rfl g rfl ?_
    refine r_iconst (kd51 rfl) (y := 1) (by decide) rfl ?_
    refine r_iadd (kd51 rfl) rfl ?_
    obtain ⟨g, h⟩ := h
    refine r_iaload (kd51 rfl) g rfl ?_
    refine r_goto (kd51 rfl) ?_
    exact (b_Machine_make_25 hd h).less (e_sc (List.mem_of_getElem? (i := 0) rfl) (e_sc (List.mem_of_getElem? (i := 1) rfl) e_sn))
