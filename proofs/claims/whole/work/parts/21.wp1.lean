/-- TierMill$Machine.useField(I)I -/
theorem kd52 {pc : Nat} {q : eI} (h : e_d52.lookup pc = some q) : e_dec 52 pc = some q := h
theorem L52 : (e_m 52).2.2.1 = 4 := rfl
theorem R52 : (e_m 52).2.2.2.1 = (some .int) := rfl
def w_Machine_useField_97 (l0 : Nat) (l1 : Int32) (M : eM) (Q : Int32 → eM → Prop) : Prop := e_ob M l0 4 ∧ e_ai M 2 l1 ∧ e_ob M (gr M l0 0) 2 ∧ w_Frames_goOn (gr M l0 0) (gi M 2 l1.toNatClampNeg) M (fun (M13 : eM) => Q (0 : Int32) M13)
theorem b_Machine_useField_97 {d : Nat} {l0 : Nat} {l1 : Int32} {M : eM} {Q : Int32 → eM → Prop} (hd : 2 ≤ d) (h : w_Machine_useField_97 l0 l1 M Q ) : e_E 52 d 0 0 97 [(0, .ref l0), (1, .int l1)] [] M (e_QI Q) := by
  unfold w_Machine_useField_97 at h
  refine r_aload_n (kd52 rfl) rfl rfl ?_
  obtain ⟨g, h⟩ := h
  refine r_get2 (kd52 rfl) (by decide) rfl g rfl ?_
  refine r_getstatic (kd52 rfl) (by decide) rfl ?_
  refine r_iload_n (kd52 rfl) rfl rfl ?_
  obtain ⟨g, h⟩ := h
  refine r_iaload (kd52 rfl) g rfl ?_
  obtain ⟨g, h⟩ := h
  refine r_callVV (d' := d - 1) (by omega) (kd52 rfl) (by decide) rfl rfl rfl rfl (Nat.le_of_ble_eq_true rfl) rfl L19 (Nat.le_of_ble_eq_true rfl) (Nat.le_of_ble_eq_true rfl) g (Nat.zero_le _) (Nat.zero_le _) rfl rfl rfl (b_Frames_goOn (by omega) h) (fun M1 h => ?_)
  refine r_iconst (kd52 rfl) (y := 0) (by decide) rfl ?_
  exact r_ireturn (kd52 rfl) R52 h
def w_Machine_useField_30 (l0 : Nat) (l1 : Int32) (l2 : Int32) (s0 : Int32) (s1 : Nat) (M : eM) (Q : Int32 → eM → Prop) : Prop := e_ob M s1 2 ∧ w_Frames_peek s1 s0 M (fun (v2 : Int32) (M1 : eM) => (¬ v2 = 0 → (¬ l1 = 40 → e_ob M1 l0 4 ∧ e_ob M1 (gr M1 l0 0) 2 ∧ w_Frames_pop (gr M1 l0 0) M1 (fun (v4 : Int32) (M3 : eM) => e_ob M3 l0 4 ∧ e_ob M3 l0 4 ∧ e_ob M3 (gr M3 l0 1) 3 ∧ w_Heap_partOf (gr M3 l0 1) v2 l2 M3 (fun (v6 : Int32) (M5 : eM) => e_ob M5 (gr M3 l0 0) 2 ∧ w_Frames_push (gr M3 l0 0) v6 M5 (fun (M7 : eM) => w_Machine_useField_97 l0 l1 M7 Q)))) ∧ (l1 = 40 → e_ob M1 l0 4 ∧ e_ob M1 l0 4 ∧ e_ob M1 (gr M1 l0 0) 2 ∧ w_Frames_pop (gr M1 l0 0) M1 (fun (v9 : Int32) (M8 : eM) => e_ob M8 (gr M1 l0 1) 3 ∧ w_Heap_setPart (gr M1 l0 1) v2 l2 v9 M8 (fun (M10 : eM) => e_ob M10 l0 4 ∧ e_ob M10 (gr M10 l0 0) 2 ∧ w_Frames_pop (gr M10 l0 0) M10 (fun (v12 : Int32) (M11 : eM) => w_Machine_useField_97 l0 l1 M11 Q))))) ∧ (v2 = 0 → Q (2 : Int32) M1))
theorem b_Machine_useField_30 {d : Nat} {l0 : Nat} {l1 : Int32} {l2 : Int32} {s0 : Int32} {s1 : Nat} {M : eM} {Q : Int32 → eM → Prop} (hd : 2 ≤ d) (h : w_Machine_useField_30 l0 l1 l2 s0 s1 M Q ) : e_E 52 d 0 0 30 [(0, .ref l0), (1, .int l1), (2, .int l2)] [.int s0, .ref s1] M (e_QI Q) := by
  unfold w_Machine_useField_30 at h
  obtain ⟨g, h⟩ := h
  refine r_callVI (d' := d - 1) (by omega) (kd52 rfl) (by decide) rfl rfl rfl rfl (Nat.le_of_ble_eq_true rfl) rfl L16 (Nat.le_of_ble_eq_true rfl) (Nat.le_of_ble_eq_true rfl) g (Nat.zero_le _) (Nat.zero_le _) rfl rfl rfl (b_Frames_peek (by omega) h) (fun x1 M1 h => ?_)
  refine r_istore_n (kd52 rfl) L52 (by decide) rfl rfl ?_
  refine r_iload_n (kd52 rfl) rfl rfl ?_
  refine r_if_ne (kd52 rfl) rfl (fun c => ?_) (fun c => ?_)
  · have h := h.1 c
    refine r_iload_n (kd52 rfl) rfl rfl ?_
    refine r_bipush (kd52 rfl) (y := 40) (by decide) rfl ?_
    refine r_icmp_ne (kd52 rfl) rfl (fun c => ?_) (fun c => ?_)
    · have h := h.1 c
      refine r_aload_n (kd52 rfl) rfl rfl ?_
      obtain ⟨g, h⟩ := h
      refine r_get2 (kd52 rfl) (by decide) rfl g rfl ?_
      obtain ⟨g, h⟩ := h
      refine r_callVI (d' := d - 1) (by omega) (kd52 rfl) (by decide) rfl rfl rfl rfl (Nat.le_of_ble_eq_true rfl) rfl L17 (Nat.le_of_ble_eq_true rfl) (Nat.le_of_ble_eq_true rfl) g (Nat.zero_le _) (Nat.zero_le _) rfl rfl rfl (b_Frames_pop (by omega) h) (fun x1 M1 h => ?_)
      refine r_pop (kd52 rfl) rfl rfl ?_
      refine r_aload_n (kd52 rfl) rfl rfl ?_
      obtain ⟨g, h⟩ := h
      refine r_get2 (kd52 rfl) (by decide) rfl g rfl ?_
      refine r_aload_n (kd52 rfl) rfl rfl ?_
      obtain ⟨g, h⟩ := h
      refine r_get2 (kd52 rfl) (by decide) rfl g rfl ?_
      refine r_iload_n (kd52 rfl) rfl rfl ?_
      refine r_iload_n (kd52 rfl) rfl rfl ?_
      obtain ⟨g, h⟩ := h
      refine r_callVI (d' := d - 1) (by omega) (kd52 rfl) (by decide) rfl rfl rfl rfl (Nat.le_of_ble_eq_true rfl) rfl L28 (Nat.le_of_ble_eq_true rfl) (Nat.le_of_ble_eq_true rfl) g (Nat.zero_le _) (Nat.zero_le _) rfl rfl rfl (b_Heap_partOf (by omega) h) (fun x1 M1 h => ?_)
      obtain ⟨g, h⟩ := h
      refine r_callVV (d' := d - 1) (by omega) (kd52 rfl) (by decide) rfl rfl rfl rfl (Nat.le_of_ble_eq_true rfl) rfl L18 (Nat.le_of_ble_eq_true rfl) (Nat.le_of_ble_eq_true rfl) g (Nat.zero_le _) (Nat.zero_le _) rfl rfl rfl (b_Frames_push (by omega) h) (fun M1 h => ?_)
      exact (b_Machine_useField_97 hd h).less (e_sc (List.mem_of_getElem? (i := 1) rfl) (e_sc (List.mem_of_getElem? (i := 2) rfl) e_sn))
    · have h := h.2 c
      refine r_aload_n (kd52 rfl) rfl rfl ?_
      obtain ⟨g, h⟩ := h
      refine r_get2 (kd52 rfl) (by decide) rfl g rfl ?_
      refine r_iload_n (kd52 rfl) rfl rfl ?_
      refine r_iload_n (kd52 rfl) rfl rfl ?_
      refine r_aload_n (kd52 rfl) rfl rfl ?_
      obtain ⟨g, h⟩ := h
      refine r_get2 (kd52 rfl) (by decide) rfl g rfl ?_
      obtain ⟨g, h⟩ := h
      refine r_callVI (d' := d - 1) (by omega) (kd52 rfl) (by decide) rfl rfl rfl rfl (Nat.le_of_ble_eq_true rfl) rfl L17 (Nat.le_of_ble_eq_true rfl) (Nat.le_of_ble_eq_true rfl) g (Nat.zero_le _) (Nat.zero_le _) rfl rfl rfl (b_Frames_pop (by omega) h) (fun x1 M1 h => ?_)
      obtain ⟨g, h⟩ := h
      refine r_callVV (d' := d - 1) (by omega) (kd52 rfl) (by decide) rfl rfl rfl rfl (Nat.le_of_ble_eq_true rfl) rfl L29 (Nat.le_of_ble_eq_true rfl) (Nat.le_of_ble_eq_true rfl) g (Nat.zero_le _) (Nat.zero_le _) rfl rfl rfl (b_Heap_setPart (by omega) h) (fun M1 h => ?_)
      refine r_aload_n (kd52 rfl) rfl rfl ?_
      obtain ⟨g, h⟩ := h
      refine r_get2 (kd52 rfl) (by decide) rfl g rfl ?_
      obtain ⟨g, h⟩ := h
      refine r_callVI (d' := d - 1) (by omega) (kd52 rfl) (by decide) rfl rfl rfl rfl (Nat.le_of_ble_eq_true rfl) rfl L17 (Nat.le_of_ble_eq_true rfl) (Nat.le_of_ble_eq_true rfl) g (Nat.zero_le _) (Nat.zero_le _) rfl rfl rfl (b_Frames_pop (by omega) h) (fun x1 M1 h => ?_)
      refine r_pop (kd52 rfl) rfl rfl ?_
      refine r_goto (kd52 rfl) ?_
      exact (b_Machine_useField_97 hd h).less (e_sc (List.mem_of_getElem? (i := 1) rfl) (e_sc (List.mem_of_getElem? (i := 2) rfl) e_sn))
  · have h := h.2 c
    refine r_iconst (kd52 rfl) (y := 2) (by decide) rfl ?_
    exact r_ireturn (kd52 rfl) R52 h
def w_Machine_useField (l0 : Nat) (l1 : Int32) (M : eM) (Q : Int32 → eM → Prop) : Prop := e_ob M l0 4 ∧ e_ob M (gr M l0 14) 6 ∧ e_ob M l0 4 ∧ e_ai M (gr M (gr M l0 14) 0) ((gi M l0 15) + 2) ∧ e_ob M l0 4 ∧ (¬ l1 = 40 → w_Machine_useField_30 l0 l1 (gi M (gr M (gr M l0 14) 0) ((gi M l0 15) + 2).toNatClampNeg) 0 (gr M l0 0) M Q) ∧ (l1 = 40 → w_Machine_useField_30 l0 l1 (gi M (gr M (gr M l0 14) 0) ((gi M l0 15) + 2).toNatClampNeg) 1 (gr M l0 0) M Q)
theorem b_Machine_useField {d : Nat} {l0 : Nat} {l1 : Int32} {M : eM} {Q : Int32 → eM → Prop} (hd : 2 ≤ d) (h : w_Machine_useField l0 l1 M Q) : e_CI 52 d 0 0 [.ref l0, .int l1] M Q := by
  unfold w_Machine_useField at h
  show e_E 52 d 0 0 0 [(0, .ref l0), (1, .int l1)] [] M (e_QI Q)
  refine r_aload_n (kd52 rfl) rfl rfl ?_
  obtain ⟨g, h⟩ := h
  refine r_get2 (kd52 rfl) (by decide) rfl g rfl ?_
  obtain ⟨g, h⟩ := h
  refine r_get2 (kd52 rfl) (by decide) rfl g rfl ?_
  refine r_aload_n (kd52 rfl) rfl rfl ?_
  obtain ⟨g, h⟩ := h
  refine r_get0 (kd52 rfl) (by decide) rfl g rfl ?_
  refine r_iconst (kd52 rfl) (y := 2) (by decide) rfl ?_
  refine r_iadd (kd52 rfl) rfl ?_
  obtain ⟨g, h⟩ := h
  refine r_iaload (kd52 rfl) g rfl ?_
  refine r_istore_n (kd52 rfl) L52 (by decide) rfl rfl ?_
  refine r_aload_n (kd52 rfl) rfl rfl ?_
  obtain ⟨g, h⟩ := h
  refine r_get2 (kd52 rfl) (by decide) rfl g rfl ?_
  refine r_iload_n (kd52 rfl) rfl rfl ?_
  refine r_bipush (kd52 rfl) (y := 40) (by decide) rfl ?_
  refine r_icmp_ne (kd52 rfl) rfl (fun c => ?_) (fun c => ?_)
  · have h := h.1 c
    refine r_iconst (kd52 rfl) (y := 0) (by decide) rfl ?_
    exact (b_Machine_useField_30 hd h).less (e_sc (List.mem_of_getElem? (i := 1) rfl) (e_sc (List.mem_of_getElem? (i := 2) rfl) (e_sc (List.mem_of_getElem? (i := 0) rfl) e_sn)))
  · have h := h.2 c
    refine r_iconst (kd52 rfl) (y := 1) (by decide) rfl ?_
    refine r_goto (kd52 rfl) ?_
    exact (b_Machine_useField_30 hd h).less (e_sc (List.mem_of_getElem? (i := 1) rfl) (e_sc (List.mem_of_getElem? (i := 2) rfl) (e_sc (List.mem_of_getElem? (i := 0) rfl) e_sn)))
/-- TierMill$Machine.useArray(I)I -/
theorem kd53 {pc : Nat} {q : eI} (h : e_d53.lookup pc = some q) : e_dec 53 pc = some q := h
theorem L53 : (e_m 53).2.2.1 = 6 := rfl
theorem R53 : (e_m 53).2.2.2.1 = (some .int) := rfl
def w_Machine_useArray_122 (M : eM) (Q : Int32 → eM → Prop) : Prop := Q (3 : Int32) M
theorem b_Machine_useArray_122 {d : Nat} {M : eM} {Q : Int32 → eM → Prop} (hd : 2 ≤ d) (h : w_Machine_useArray_122 M Q ) : e_E 53 d 0 0 122 [] [] M (e_QI Q) := by
  unfold w_Machine_useArray_122 at h
  refine r_iconst (kd53 rfl) (y := 3) (by decide) rfl ?_
  exact r_ireturn (kd53 rfl) R53 h
def w_Machine_useArray_187 (l0 : Nat) (l1 : Int32) (M : eM) (Q : Int32 → eM → Prop) : Prop := e_ob M l0 4 ∧ e_ai M 2 l1 ∧ e_ob M (gr M l0 0) 2 ∧ w_Frames_goOn (gr M l0 0) (gi M 2 l1.toNatClampNeg) M (fun (M23 : eM) => Q (0 : Int32) M23)
theorem b_Machine_useArray_187 {d : Nat} {l0 : Nat} {l1 : Int32} {M : eM} {Q : Int32 → eM → Prop} (hd : 2 ≤ d) (h : w_Machine_useArray_187 l0 l1 M Q ) : e_E 53 d 0 0 187 [(0, .ref l0), (1, .int l1)] [] M (e_QI Q) := by
  unfold w_Machine_useArray_187 at h
  refine r_aload_n (kd53 rfl) rfl rfl ?_
  obtain ⟨g, h⟩ := h
  refine r_get2 (kd53 rfl) (by decide) rfl g rfl ?_
  refine r_getstatic (kd53 rfl) (by decide) rfl ?_
  refine r_iload_n (kd53 rfl) rfl rfl ?_
  obtain ⟨g, h⟩ := h
  refine r_iaload (kd53 rfl) g rfl ?_
  obtain ⟨g, h⟩ := h
  refine r_callVV (d' := d - 1) (by omega) (kd53 rfl) (by decide) rfl rfl rfl rfl (Nat.le_of_ble_eq_true rfl) rfl L19 (Nat.le_of_ble_eq_true rfl) (Nat.le_of_ble_eq_true rfl) g (Nat.zero_le _) (Nat.zero_le _) rfl rfl rfl (b_Frames_goOn (by omega) h) (fun M1 h => ?_)
  refine r_iconst (kd53 rfl) (y := 0) (by decide) rfl ?_
  exact r_ireturn (kd53 rfl) R53 h
def w_Machine_useArray_106 (l0 : Nat) (l1 : Int32) (l2 : Int32) (l3 : Int32) (s0 : Int32) (s1 : Nat) (M : eM) (Q : Int32 → eM → Prop) : Prop := e_ob M s1 2 ∧ w_Frames_peek s1 s0 M (fun (v12 : Int32) (M11 : eM) => (v12 < 0 → w_Machine_useArray_122 M11 Q) ∧ (¬ v12 < 0 → (v12 < l3 → e_ob M11 l0 4 ∧ e_ob M11 (gr M11 l0 0) 2 ∧ w_Frames_pop (gr M11 l0 0) M11 (fun (v14 : Int32) (M13 : eM) => e_ob M13 l0 4 ∧ e_ob M13 (gr M13 l0 0) 2 ∧ w_Frames_pop (gr M13 l0 0) M13 (fun (v16 : Int32) (M15 : eM) => (¬ l1 = 43 → e_ob M15 l0 4 ∧ e_ob M15 l0 4 ∧ e_ob M15 (gr M15 l0 1) 3 ∧ w_Heap_partOf (gr M15 l0 1) l2 v12 M15 (fun (v18 : Int32) (M17 : eM) => e_ob M17 (gr M15 l0 0) 2 ∧ w_Frames_push (gr M15 l0 0) v18 M17 (fun (M19 : eM) => w_Machine_useArray_187 l0 l1 M19 Q))) ∧ (l1 = 43 → e_ob M15 l0 4 ∧ e_ob M15 (gr M15 l0 1) 3 ∧ w_Heap_setPart (gr M15 l0 1) l2 v12 v14 M15 (fun (M20 : eM) => e_ob M20 l0 4 ∧ e_ob M20 (gr M20 l0 0) 2 ∧ w_Frames_pop (gr M20 l0 0) M20 (fun (v22 : Int32) (M21 : eM) => w_Machine_useArray_187 l0 l1 M21 Q)))))) ∧ (¬ v12 < l3 → w_Machine_useArray_122 M11 Q)))
theorem b_Machine_useArray_106 {d : Nat} {l0 : Nat} {l1 : Int32} {l2 : Int32} {l3 : Int32} {s0 : Int32} {s1 : Nat} {M : eM} {Q : Int32 → eM → Prop} (hd : 2 ≤ d) (h : w_Machine_useArray_106 l0 l1 l2 l3 s0 s1 M Q ) : e_E 53 d 0 0 106 [(0, .ref l0), (1, .int l1), (2, .int l2), (3, .int l3)] [.int s0, .ref s1] M (e_QI Q) := by
  unfold w_Machine_useArray_106 at h
  obtain ⟨g, h⟩ := h
  refine r_callVI (d' := d - 1) (by omega) (kd53 rfl) (by decide) rfl rfl rfl rfl (Nat.le_of_ble_eq_true rfl) rfl L16 (Nat.le_of_ble_eq_true rfl) (Nat.le_of_ble_eq_true rfl) g (Nat.zero_le _) (Nat.zero_le _) rfl rfl rfl (b_Frames_peek (by omega) h) (fun x1 M1 h => ?_)
  refine r_istore (kd53 rfl) L53 (by decide) rfl rfl ?_
  refine r_iload (kd53 rfl) rfl rfl ?_
  refine r_if_lt (kd53 rfl) rfl (fun c => ?_) (fun c => ?_)
  · have h := h.1 c
    exact (b_Machine_useArray_122 hd h).less e_sn
  · have h := h.2 c
    refine r_iload (kd53 rfl) rfl rfl ?_
    refine r_iload_n (kd53 rfl) rfl rfl ?_
    refine r_icmp_lt (kd53 rfl) rfl (fun c => ?_) (fun c => ?_)
    · have h := h.1 c
      refine r_aload_n (kd53 rfl) rfl rfl ?_
      obtain ⟨g, h⟩ := h
      refine r_get2 (kd53 rfl) (by decide) rfl g rfl ?_
      obtain ⟨g, h⟩ := h
      refine r_callVI (d' := d - 1) (by omega) (kd53 rfl) (by decide) rfl rfl rfl rfl (Nat.le_of_ble_eq_true rfl) rfl L17 (Nat.le_of_ble_eq_true rfl) (Nat.le_of_ble_eq_true rfl) g (Nat.zero_le _) (Nat.zero_le _) rfl rfl rfl (b_Frames_pop (by omega) h) (fun x1 M1 h => ?_)
      refine r_istore (kd53 rfl) L53 (by decide) rfl rfl ?_
      refine r_aload_n (kd53 rfl) rfl rfl ?_
      obtain ⟨g, h⟩ := h
      refine r_get2 (kd53 rfl) (by decide) rfl g rfl ?_
      obtain ⟨g, h⟩ := h
      refine r_callVI (d' := d - 1) (by omega) (kd53 rfl) (by decide) rfl rfl rfl rfl (Nat.le_of_ble_eq_true rfl) rfl L17 (Nat.le_of_ble_eq_true rfl) (Nat.le_of_ble_eq_true rfl) g (Nat.zero_le _) (Nat.zero_le _) rfl rfl rfl (b_Frames_pop (by omega) h) (fun x1 M1 h => ?_)
      refine r_pop (kd53 rfl) rfl rfl ?_
      refine r_iload_n (kd53 rfl) rfl rfl ?_
      refine r_bipush (kd53 rfl) (y := 43) (by decide) rfl ?_
      refine r_icmp_ne (kd53 rfl) rfl (fun c => ?_) (fun c => ?_)
      · have h := h.1 c
        refine r_aload_n (kd53 rfl) rfl rfl ?_
        obtain ⟨g, h⟩ := h
        refine r_get2 (kd53 rfl) (by decide) rfl g rfl ?_
        refine r_aload_n (kd53 rfl) rfl rfl ?_
        obtain ⟨g, h⟩ := h
        refine r_get2 (kd53 rfl) (by decide) rfl g rfl ?_
        refine r_iload_n (kd53 rfl) rfl rfl ?_
        refine r_iload (kd53 rfl) rfl rfl ?_
        obtain ⟨g, h⟩ := h
        refine r_callVI (d' := d - 1) (by omega) (kd53 rfl) (by decide) rfl rfl rfl rfl (Nat.le_of_ble_eq_true rfl) rfl L28 (Nat.le_of_ble_eq_true rfl) (Nat.le_of_ble_eq_true rfl) g (Nat.zero_le _) (Nat.zero_le _) rfl rfl rfl (b_Heap_partOf (by omega) h) (fun x1 M1 h => ?_)
        obtain ⟨g, h⟩ := h
        refine r_callVV (d' := d - 1) (by omega) (kd53 rfl) (by decide) rfl rfl rfl rfl (Nat.le_of_ble_eq_true rfl) rfl L18 (Nat.le_of_ble_eq_true rfl) (Nat.le_of_ble_eq_true rfl) g (Nat.zero_le _) (Nat.zero_le _) rfl rfl rfl (b_Frames_push (by omega) h) (fun M1 h => ?_)
        exact (b_Machine_useArray_187 hd h).less (e_sc (List.mem_of_getElem? (i := 2) rfl) (e_sc (List.mem_of_getElem? (i := 3) rfl) e_sn))
      · have h := h.2 c
        refine r_aload_n (kd53 rfl) rfl rfl ?_
        obtain ⟨g, h⟩ := h
        refine r_get2 (kd53 rfl) (by decide) rfl g rfl ?_
        refine r_iload_n (kd53 rfl) rfl rfl ?_
        refine r_iload (kd53 rfl) rfl rfl ?_
        refine r_iload (kd53 rfl) rfl rfl ?_
        obtain ⟨g, h⟩ := h
        refine r_callVV (d' := d - 1) (by omega) (kd53 rfl) (by decide) rfl rfl rfl rfl (Nat.le_of_ble_eq_true rfl) rfl L29 (Nat.le_of_ble_eq_true rfl) (Nat.le_of_ble_eq_true rfl) g (Nat.zero_le _) (Nat.zero_le _) rfl rfl rfl (b_Heap_setPart (by omega) h) (fun M1 h => ?_)
        refine r_aload_n (kd53 rfl) rfl rfl ?_
        obtain ⟨g, h⟩ := h
        refine r_get2 (kd53 rfl) (by decide) rfl g rfl ?_
        obtain ⟨g, h⟩ := h
        refine r_callVI (d' := d - 1) (by omega) (kd53 rfl) (by decide) rfl rfl rfl rfl (Nat.le_of_ble_eq_true rfl) rfl L17 (Nat.le_of_ble_eq_true rfl) (Nat.le_of_ble_eq_true rfl) g (Nat.zero_le _) (Nat.zero_le _) rfl rfl rfl (b_Frames_pop (by omega) h) (fun x1 M1 h => ?_)
        refine r_pop (kd53 rfl) rfl rfl ?_
        refine r_goto (kd53 rfl) ?_
        exact (b_Machine_useArray_187 hd h).less (e_sc (List.mem_of_getElem? (i := 2) rfl) (e_sc (List.mem_of_getElem? (i := 3) rfl) e_sn))
    · have h := h.2 c
      exact (b_Machine_useArray_122 hd h).less e_sn
def w_Machine_useArray_25 (l0 : Nat) (l1 : Int32) (s0 : Int32) (s1 : Nat) (M : eM) (Q : Int32 → eM → Prop) : Prop := e_ob M s1 2 ∧ w_Frames_peek s1 s0 M (fun (v2 : Int32) (M1 : eM) => (¬ v2 = 0 → e_ob M1 l0 4 ∧ e_ob M1 l0 4 ∧ e_ob M1 l0 4 ∧ e_ob M1 (gr M1 l0 1) 3 ∧ w_Heap_tagOf (gr M1 l0 1) v2 M1 (fun (v4 : Int32) (M3 : eM) => e_ob M3 (gr M1 l0 1) 3 ∧ w_Heap_partsOf (gr M1 l0 1) (gr M1 l0 14) v4 M3 (fun (v6 : Int32) (M5 : eM) => (¬ l1 = 44 → e_ob M5 l0 4 ∧ (¬ l1 = 43 → w_Machine_useArray_106 l0 l1 v2 v6 0 (gr M5 l0 0) M5 Q) ∧ (l1 = 43 → w_Machine_useArray_106 l0 l1 v2 v6 1 (gr M5 l0 0) M5 Q)) ∧ (l1 = 44 → e_ob M5 l0 4 ∧ e_ob M5 (gr M5 l0 0) 2 ∧ w_Frames_pop (gr M5 l0 0) M5 (fun (v8 : Int32) (M7 : eM) => e_ob M7 l0 4 ∧ e_ob M7 (gr M7 l0 0) 2 ∧ w_Frames_push (gr M7 l0 0) v6 M7 (fun (M9 : eM) => e_ob M9 l0 4 ∧ e_ai M9 2 l1 ∧ e_ob M9 (gr M9 l0 0) 2 ∧ w_Frames_goOn (gr M9 l0 0) (gi M9 2 l1.toNatClampNeg) M9 (fun (M10 : eM) => Q (0 : Int32) M10))))))) ∧ (v2 = 0 → Q (2 : Int32) M1))
theorem b_Machine_useArray_25 {d : Nat} {l0 : Nat} {l1 : Int32} {s0 : Int32} {s1 : Nat} {M : eM} {Q : Int32 → eM → Prop} (hd : 2 ≤ d) (h : w_Machine_useArray_25 l0 l1 s0 s1 M Q ) : e_E 53 d 0 0 25 [(0, .ref l0), (1, .int l1)] [.int s0, .ref s1] M (e_QI Q) := by
  unfold w_Machine_useArray_25 at h
  obtain ⟨g, h⟩ := h
  refine r_callVI (d' := d - 1) (by omega) (kd53 rfl) (by decide) rfl rfl rfl rfl (Nat.le_of_ble_eq_true rfl) rfl L16 (Nat.le_of_ble_eq_true rfl) (Nat.le_of_ble_eq_true rfl) g (Nat.zero_le _) (Nat.zero_le _) rfl rfl rfl (b_Frames_peek (by omega) h) (fun x1 M1 h => ?_)
  refine r_istore_n (kd53 rfl) L53 (by decide) rfl rfl ?_
  refine r_iload_n (kd53 rfl) rfl rfl ?_
  refine r_if_ne (kd53 rfl) rfl (fun c => ?_) (fun c => ?_)
  · have h := h.1 c
    refine r_aload_n (kd53 rfl) rfl rfl ?_
    obtain ⟨g, h⟩ := h
    refine r_get2 (kd53 rfl) (by decide) rfl g rfl ?_
    refine r_aload_n (kd53 rfl) rfl rfl ?_
    obtain ⟨g, h⟩ := h
    refine r_get2 (kd53 rfl) (by decide) rfl g rfl ?_
    refine r_aload_n (kd53 rfl) rfl rfl ?_
    obtain ⟨g, h⟩ := h
    refine r_get2 (kd53 rfl) (by decide) rfl g rfl ?_
    refine r_iload_n (kd53 rfl) rfl rfl ?_
    obtain ⟨g, h⟩ := h
    refine r_callVI (d' := d - 1) (by omega) (kd53 rfl) (by decide) rfl rfl rfl rfl (Nat.le_of_ble_eq_true rfl) rfl L26 (Nat.le_of_ble_eq_true rfl) (Nat.le_of_ble_eq_true rfl) g (Nat.zero_le _) (Nat.zero_le _) rfl rfl rfl (b_Heap_tagOf (by omega) h) (fun x1 M1 h => ?_)
    obtain ⟨g, h⟩ := h
    refine r_callVI (d' := d - 1) (by omega) (kd53 rfl) (by decide) rfl rfl rfl rfl (Nat.le_of_ble_eq_true rfl) rfl L27 (Nat.le_of_ble_eq_true rfl) (Nat.le_of_ble_eq_true rfl) g (Nat.zero_le _) (Nat.zero_le _) rfl rfl rfl (b_Heap_partsOf (by omega) h) (fun x1 M1 h => ?_)
    refine r_istore_n (kd53 rfl) L53 (by decide) rfl rfl ?_
    refine r_iload_n (kd53 rfl) rfl rfl ?_
    refine r_bipush (kd53 rfl) (y := 44) (by decide) rfl ?_
    refine r_icmp_ne (kd53 rfl) rfl (fun c => ?_) (fun c => ?_)
    · have h := h.1 c
      refine r_aload_n (kd53 rfl) rfl rfl ?_
      obtain ⟨g, h⟩ := h
      refine r_get2 (kd53 rfl) (by decide) rfl g rfl ?_
      refine r_iload_n (kd53 rfl) rfl rfl ?_
      refine r_bipush (kd53 rfl) (y := 43) (by decide) rfl ?_
      refine r_icmp_ne (kd53 rfl) rfl (fun c => ?_) (fun c => ?_)
      · have h := h.1 c
        refine r_iconst (kd53 rfl) (y := 0) (by decide) rfl ?_
        exact (b_Machine_useArray_106 hd h).less (e_sc (List.mem_of_getElem? (i := 2) rfl) (e_sc (List.mem_of_getElem? (i := 3) rfl) (e_sc (List.mem_of_getElem? (i := 1) rfl) (e_sc (List.mem_of_getElem? (i := 0) rfl) e_sn))))
      · have h := h.2 c
        refine r_iconst (kd53 rfl) (y := 1) (by decide) rfl ?_
        refine r_goto (kd53 rfl) ?_
        exact (b_Machine_useArray_106 hd h).less (e_sc (List.mem_of_getElem? (i := 2) rfl) (e_sc (List.mem_of_getElem? (i := 3) rfl) (e_sc (List.mem_of_getElem? (i := 1) rfl) (e_sc (List.mem_of_getElem? (i := 0) rfl) e_sn))))
    · have h := h.2 c
      refine r_aload_n (kd53 rfl) rfl rfl ?_
      obtain ⟨g, h⟩ := h
      refine r_get2 (kd53 rfl) (by decide) rfl g rfl ?_
      obtain ⟨g, h⟩ := h
      refine r_callVI (d' := d - 1) (by omega) (kd53 rfl) (by decide) rfl rfl rfl rfl (Nat.le_of_ble_eq_true rfl) rfl L17 (Nat.le_of_ble_eq_true rfl) (Nat.le_of_ble_eq_true rfl) g (Nat.zero_le _) (Nat.zero_le _) rfl rfl rfl (b_Frames_pop (by omega) h) (fun x1 M1 h => ?_)
      refine r_pop (kd53 rfl) rfl rfl ?_
      refine r_aload_n (kd53 rfl) rfl rfl ?_
      obtain ⟨g, h⟩ := h
      refine r_get2 (kd53 rfl) (by decide) rfl g rfl ?_
      refine r_iload_n (kd53 rfl) rfl rfl ?_
      obtain ⟨g, h⟩ := h
      refine r_callVV (d' := d - 1) (by omega) (kd53 rfl) (by decide) rfl rfl rfl rfl (Nat.le_of_ble_eq_true rfl) rfl L18 (Nat.le_of_ble_eq_true rfl) (Nat.le_of_ble_eq_true rfl) g (Nat.zero_le _) (Nat.zero_le _) rfl rfl rfl (b_Frames_push (by omega) h) (fun M1 h => ?_)
      refine r_aload_n (kd53 rfl) rfl rfl ?_
      obtain ⟨g, h⟩ := h
      refine r_get2 (kd53 rfl) (by decide) rfl g rfl ?_
      refine r_getstatic (kd53 rfl) (by decide) rfl ?_
      refine r_iload_n (kd53 rfl) rfl rfl ?_
      obtain ⟨g, h⟩ := h
      refine r_iaload (kd53 rfl) g rfl ?_
      obtain ⟨g, h⟩ := h
      refine r_callVV (d' := d - 1) (by omega) (kd53 rfl) (by decide) rfl rfl rfl rfl (Nat.le_of_ble_eq_true rfl) rfl L19 (Nat.le_of_ble_eq_true rfl) (Nat.le_of_ble_eq_true rfl) g (Nat.zero_le _) (Nat.zero_le _) rfl rfl rfl (b_Frames_goOn (by omega) h) (fun M1 h => ?_)
      refine r_iconst (kd53 rfl) (y := 0) (by decide) rfl ?_
      exact r_ireturn (kd53 rfl) R53 h
  · have h := h.2 c
    refine r_iconst (kd53 rfl) (y := 2) (by decide) rfl ?_
    exact r_ireturn (kd53 rfl) R53 h
def w_Machine_useArray (l0 : Nat) (l1 : Int32) (M : eM) (Q : Int32 → eM → Prop) : Prop := e_ob M l0 4 ∧ (¬ l1 = 43 → (¬ l1 = 42 → w_Machine_useArray_25 l0 l1 0 (gr M l0 0) M Q) ∧ (l1 = 42 → w_Machine_useArray_25 l0 l1 1 (gr M l0 0) M Q)) ∧ (l1 = 43 → w_Machine_useArray_25 l0 l1 2 (gr M l0 0) M Q)
theorem b_Machine_useArray {d : Nat} {l0 : Nat} {l1 : Int32} {M : eM} {Q : Int32 → eM → Prop} (hd : 2 ≤ d) (h : w_Machine_useArray l0 l1 M Q) : e_CI 53 d 0 0 [.ref l0, .int l1] M Q := by
  unfold w_Machine_useArray at h
  show e_E 53 d 0 0 0 [(0, .ref l0), (1, .int l1)] [] M (e_QI Q)
  refine r_aload_n (kd53 rfl) rfl rfl ?_
  obtain ⟨g, h⟩ := h
  refine r_get2 (kd53 rfl) (by decide) rfl g rfl ?_
  refine r_iload_n (kd53 rfl) rfl rfl ?_
  refine r_bipush (kd53 rfl) (y := 43) (by decide) rfl ?_
  refine r_icmp_ne (kd53 rfl) rfl (fun c => ?_) (fun c => ?_)
  · have h := h.1 c
    refine r_iload_n (kd53 rfl) rfl rfl ?_
    refine r_bipush (kd53 rfl) (y := 42) (by decide) rfl ?_
    refine r_icmp_ne (kd53 rfl) rfl (fun c => ?_) (fun c => ?_)
    · have h := h.1 c
      refine r_iconst (kd53 rfl) (y := 0) (by decide) rfl ?_
      exact (b_Machine_useArray_25 hd h).less (e_sc (List.mem_of_getElem? (i := 0) rfl) (e_sc (List.mem_of_getElem? (i := 1) rfl) e_sn))
    · have h := h.2 c
      refine r_iconst (kd53 rfl) (y := 1) (by decide) rfl ?_
      refine r_goto (kd53 rfl) ?_
      exact (b_Machine_useArray_25 hd h).less (e_sc (List.mem_of_getElem? (i := 0) rfl) (e_sc (List.mem_of_getElem? (i := 1) rfl) e_sn))
  · have h := h.2 c
    refine r_iconst (kd53 rfl) (y := 2) (by decide) rfl ?_
    refine r_goto (kd53 rfl) ?_
    exact (b_Machine_useArray_25 hd h).less (e_sc (List.mem_of_getElem? (i := 0) rfl) (e_sc (List.mem_of_getElem? (i := 1) rfl) e_sn))
/-- TierMill$Program.isOrBelow(II)Z -/
theorem kd66 {pc : Nat} {q : eI} (h : e_d66.lookup pc = some q) : e_dec 66 pc = some q := h
theorem L66 : (e_m 66).2.2.1 = 3 := rfl
theorem R66 : (e_m 66).2.2.2.1 = (some .boolean) := rfl
def w_Program_isOrBelow_18 (s0 : Int32) (M : eM) (Q : Int32 → eM → Prop) : Prop := (s0 = 0 ∨ s0 = 1) ∧ Q s0 M
theorem b_Program_isOrBelow_18 {d : Nat} {s0 : Int32} {M : eM} {Q : Int32 → eM → Prop} (hd : 0 ≤ d) (h : w_Program_isOrBelow_18 s0 M Q ) : e_E 66 d 0 0 18 [] [.int s0] M (e_QI Q) := by
  unfold w_Program_isOrBelow_18 at h
  exact r_zreturn (kd66 rfl) R66 h.1 h.2
def w_Program_isOrBelow (l0 : Nat) (l1 : Int32) (l2 : Int32) (M : eM) (Q : Int32 → eM → Prop) : Prop := e_ob M l0 6 ∧ e_ai M (gr M l0 4) l1 ∧ ((((gi M (gr M l0 4) l1.toNatClampNeg) >>> (l2 &&& 31)) &&& 1) = 0 → w_Program_isOrBelow_18 0 M Q) ∧ (¬ (((gi M (gr M l0 4) l1.toNatClampNeg) >>> (l2 &&& 31)) &&& 1) = 0 → w_Program_isOrBelow_18 1 M Q)
theorem b_Program_isOrBelow {d : Nat} {l0 : Nat} {l1 : Int32} {l2 : Int32} {M : eM} {Q : Int32 → eM → Prop} (hd : 0 ≤ d) (h : w_Program_isOrBelow l0 l1 l2 M Q) : e_CI 66 d 0 0 [.ref l0, .int l1, .int l2] M Q := by
  unfold w_Program_isOrBelow at h
  show e_E 66 d 0 0 0 [(0, .ref l0), (1, .int l1), (2, .int l2)] [] M (e_QI Q)
  refine r_aload_n (kd66 rfl) rfl rfl ?_
  obtain ⟨g, h⟩ := h
  refine r_get2 (kd66 rfl) (by decide) rfl g rfl ?_
  refine r_iload_n (kd66 rfl) rfl rfl ?_
  obtain ⟨g, h⟩ := h
  refine r_iaload (kd66 rfl) g rfl ?_
  refine r_iload_n (kd66 rfl) rfl rfl ?_
  refine r_ishr (kd66 rfl) rfl ?_
  refine r_iconst (kd66 rfl) (y := 1) (by decide) rfl ?_
  refine r_iand (kd66 rfl) rfl ?_
  refine r_if_eq (kd66 rfl) rfl (fun c => ?_) (fun c => ?_)
  · have h := h.1 c
    refine r_iconst (kd66 rfl) (y := 0) (by decide) rfl ?_
    exact (b_Program_isOrBelow_18 hd h).less e_sn
  · have h := h.2 c
    refine r_iconst (kd66 rfl) (y := 1) (by decide) rfl ?_
    refine r_goto (kd66 rfl) ?_
    exact (b_Program_isOrBelow_18 hd h).less e_sn
/-- TierMill$Machine.testClass(I)I -/
theorem kd54 {pc : Nat} {q : eI} (h : e_d54.lookup pc = some q) : e_dec 54 pc = some q := h
theorem L54 : (e_m 54).2.2.1 = 4 := rfl
theorem R54 : (e_m 54).2.2.2.1 = (some .int) := rfl
def w_Machine_testClass_97 (l0 : Nat) (l1 : Int32) (M : eM) (Q : Int32 → eM → Prop) : Prop := e_ob M l0 4 ∧ e_ai M 2 l1 ∧ e_ob M (gr M l0 0) 2 ∧ w_Frames_goOn (gr M l0 0) (gi M 2 l1.toNatClampNeg) M (fun (M10 : eM) => Q (0 : Int32) M10)
theorem b_Machine_testClass_97 {d : Nat} {l0 : Nat} {l1 : Int32} {M : eM} {Q : Int32 → eM → Prop} (hd : 2 ≤ d) (h : w_Machine_testClass_97 l0 l1 M Q ) : e_E 54 d 0 0 97 [(0, .ref l0), (1, .int l1)] [] M (e_QI Q) := by
  unfold w_Machine_testClass_97 at h
  refine r_aload_n (kd54 rfl) rfl rfl ?_
  obtain ⟨g, h⟩ := h
  refine r_get2 (kd54 rfl) (by decide) rfl g rfl ?_
  refine r_getstatic (kd54 rfl) (by decide) rfl ?_
  refine r_iload_n (kd54 rfl) rfl rfl ?_
  obtain ⟨g, h⟩ := h
  refine r_iaload (kd54 rfl) g rfl ?_
  obtain ⟨g, h⟩ := h
  refine r_callVV (d' := d - 1) (by omega) (kd54 rfl) (by decide) rfl rfl rfl rfl (Nat.le_of_ble_eq_true rfl) rfl L19 (Nat.le_of_ble_eq_true rfl) (Nat.le_of_ble_eq_true rfl) g (Nat.zero_le _) (Nat.zero_le _) rfl rfl rfl (b_Frames_goOn (by omega) h) (fun M1 h => ?_)
  refine r_iconst (kd54 rfl) (y := 0) (by decide) rfl ?_
  exact r_ireturn (kd54 rfl) R54 h
def w_Machine_testClass_94 (l0 : Nat) (l1 : Int32) (s0 : Int32) (s1 : Nat) (M : eM) (Q : Int32 → eM → Prop) : Prop := e_ob M s1 2 ∧ w_Frames_push s1 s0 M (fun (M9 : eM) => w_Machine_testClass_97 l0 l1 M9 Q)
theorem b_Machine_testClass_94 {d : Nat} {l0 : Nat} {l1 : Int32} {s0 : Int32} {s1 : Nat} {M : eM} {Q : Int32 → eM → Prop} (hd : 2 ≤ d) (h : w_Machine_testClass_94 l0 l1 s0 s1 M Q ) : e_E 54 d 0 0 94 [(0, .ref l0), (1, .int l1)] [.int s0, .ref s1] M (e_QI Q) := by
  unfold w_Machine_testClass_94 at h
  obtain ⟨g, h⟩ := h
  refine r_callVV (d' := d - 1) (by omega) (kd54 rfl) (by decide) rfl rfl rfl rfl (Nat.le_of_ble_eq_true rfl) rfl L18 (Nat.le_of_ble_eq_true rfl) (Nat.le_of_ble_eq_true rfl) g (Nat.zero_le _) (Nat.zero_le _) rfl rfl rfl (b_Frames_push (by omega) h) (fun M1 h => ?_)
  exact (b_Machine_testClass_97 hd h).less (e_sc (List.mem_of_getElem? (i := 0) rfl) (e_sc (List.mem_of_getElem? (i := 1) rfl) e_sn))
def w_Machine_testClass_67 (l0 : Nat) (l1 : Int32) (l3 : Int32) (M : eM) (Q : Int32 → eM → Prop) : Prop := (¬ l1 = 45 → w_Machine_testClass_97 l0 l1 M Q) ∧ (l1 = 45 → e_ob M l0 4 ∧ e_ob M (gr M l0 0) 2 ∧ w_Frames_pop (gr M l0 0) M (fun (v8 : Int32) (M7 : eM) => e_ob M7 l0 4 ∧ (l3 = 0 → w_Machine_testClass_94 l0 l1 0 (gr M7 l0 0) M7 Q) ∧ (¬ l3 = 0 → w_Machine_testClass_94 l0 l1 1 (gr M7 l0 0) M7 Q)))
theorem b_Machine_testClass_67 {d : Nat} {l0 : Nat} {l1 : Int32} {l3 : Int32} {M : eM} {Q : Int32 → eM → Prop} (hd : 2 ≤ d) (h : w_Machine_testClass_67 l0 l1 l3 M Q ) : e_E 54 d 0 0 67 [(0, .ref l0), (1, .int l1), (3, .int l3)] [] M (e_QI Q) := by
  unfold w_Machine_testClass_67 at h
  refine r_iload_n (kd54 rfl) rfl rfl ?_
  refine r_bipush (kd54 rfl) (y := 45) (by decide) rfl ?_
  refine r_icmp_ne (kd54 rfl) rfl (fun c => ?_) (fun c => ?_)
  · have h := h.1 c
    exact (b_Machine_testClass_97 hd h).less (e_sc (List.mem_of_getElem? (i := 0) rfl) (e_sc (List.mem_of_getElem? (i := 1) rfl) e_sn))
  · have h := h.2 c
    refine r_aload_n (kd54 rfl) rfl rfl ?_
    obtain ⟨g, h⟩ := h
    refine r_get2 (kd54 rfl) (by decide) rfl g rfl ?_
    obtain ⟨g, h⟩ := h
    refine r_callVI (d' := d - 1) (by omega) (kd54 rfl) (by decide) rfl rfl rfl rfl (Nat.le_of_ble_eq_true rfl) rfl L17 (Nat.le_of_ble_eq_true rfl) (Nat.le_of_ble_eq_true rfl) g (Nat.zero_le _) (Nat.zero_le _) rfl rfl rfl (b_Frames_pop (by omega) h) (fun x1 M1 h => ?_)
    refine r_pop (kd54 rfl) rfl rfl ?_
    refine r_aload_n (kd54 rfl) rfl rfl ?_
    obtain ⟨g, h⟩ := h
    refine r_get2 (kd54 rfl) (by decide) rfl g rfl ?_
    refine r_iload_n (kd54 rfl) rfl rfl ?_
    refine r_if_eq (kd54 rfl) rfl (fun c => ?_) (fun c => ?_)
    · have h := h.1 c
      refine r_iconst (kd54 rfl) (y := 0) (by decide) rfl ?_
      exact (b_Machine_testClass_94 hd h).less (e_sc (List.mem_of_getElem? (i := 0) rfl) (e_sc (List.mem_of_getElem? (i := 1) rfl) e_sn))
    · have h := h.2 c
      refine r_iconst (kd54 rfl) (y := 1) (by decide) rfl ?_
      refine r_goto (kd54 rfl) ?_
      exact (b_Machine_testClass_94 hd h).less (e_sc (List.mem_of_getElem? (i := 0) rfl) (e_sc (List.mem_of_getElem? (i := 1) rfl) e_sn))
def w_Machine_testClass_50 (l0 : Nat) (l1 : Int32) (l2 : Int32) (s0 : Int32) (M : eM) (Q : Int32 → eM → Prop) : Prop := (¬ l1 = 46 → w_Machine_testClass_67 l0 l1 s0 M Q) ∧ (l1 = 46 → (l2 = 0 → w_Machine_testClass_67 l0 l1 s0 M Q) ∧ (¬ l2 = 0 → (¬ s0 = 0 → w_Machine_testClass_67 l0 l1 s0 M Q) ∧ (s0 = 0 → Q (5 : Int32) M)))
theorem b_Machine_testClass_50 {d : Nat} {l0 : Nat} {l1 : Int32} {l2 : Int32} {s0 : Int32} {M : eM} {Q : Int32 → eM → Prop} (hd : 2 ≤ d) (h : w_Machine_testClass_50 l0 l1 l2 s0 M Q ) : e_E 54 d 0 0 50 [(0, .ref l0), (1, .int l1), (2, .int l2)] [.int s0] M (e_QI Q) := by
  unfold w_Machine_testClass_50 at h
  refine r_istore_n (kd54 rfl) L54 (by decide) rfl rfl ?_
  refine r_iload_n (kd54 rfl) rfl rfl ?_
  refine r_bipush (kd54 rfl) (y := 46) (by decide) rfl ?_
  refine r_icmp_ne (kd54 rfl) rfl (fun c => ?_) (fun c => ?_)
  · have h := h.1 c
    exact (b_Machine_testClass_67 hd h).less (e_sc (List.mem_of_getElem? (i := 1) rfl) (e_sc (List.mem_of_getElem? (i := 2) rfl) (e_sc (List.mem_of_getElem? (i := 0) rfl) e_sn)))
  · have h := h.2 c
    refine r_iload_n (kd54 rfl) rfl rfl ?_
    refine r_if_eq (kd54 rfl) rfl (fun c => ?_) (fun c => ?_)
    · have h := h.1 c
      exact (b_Machine_testClass_67 hd h).less (e_sc (List.mem_of_getElem? (i := 1) rfl) (e_sc (List.mem_of_getElem? (i := 2) rfl) (e_sc (List.mem_of_getElem? (i := 0) rfl) e_sn)))
    · have h := h.2 c
      refine r_iload_n (kd54 rfl) rfl rfl ?_
      refine r_if_ne (kd54 rfl) rfl (fun c => ?_) (fun c => ?_)
      · have h := h.1 c
        exact (b_Machine_testClass_67 hd h).less (e_sc (List.mem_of_getElem? (i := 1) rfl) (e_sc (List.mem_of_getElem? (i := 2) rfl) (e_sc (List.mem_of_getElem? (i := 0) rfl) e_sn)))
      · have h := h.2 c
        refine r_iconst (kd54 rfl) (y := 5) (by decide) rfl ?_
        exact r_ireturn (kd54 rfl) R54 h
def w_Machine_testClass_49 (l0 : Nat) (l1 : Int32) (l2 : Int32) (M : eM) (Q : Int32 → eM → Prop) : Prop := w_Machine_testClass_50 l0 l1 l2 0 M Q
theorem b_Machine_testClass_49 {d : Nat} {l0 : Nat} {l1 : Int32} {l2 : Int32} {M : eM} {Q : Int32 → eM → Prop} (hd : 2 ≤ d) (h : w_Machine_testClass_49 l0 l1 l2 M Q ) : e_E 54 d 0 0 49 [(0, .ref l0), (1, .int l1), (2, .int l2)] [] M (e_QI Q) := by
  unfold w_Machine_testClass_49 at h
  refine r_iconst (kd54 rfl) (y := 0) (by decide) rfl ?_
  exact (b_Machine_testClass_50 hd h).less (e_sc (List.mem_of_getElem? (i := 0) rfl) (e_sc (List.mem_of_getElem? (i := 1) rfl) (e_sc (List.mem_of_getElem? (i := 2) rfl) e_sn)))
def w_Machine_testClass (l0 : Nat) (l1 : Int32) (M : eM) (Q : Int32 → eM → Prop) : Prop := e_ob M l0 4 ∧ e_ob M (gr M l0 0) 2 ∧ w_Frames_peek (gr M l0 0) 0 M (fun (v2 : Int32) (M1 : eM) => (v2 = 0 → w_Machine_testClass_49 l0 l1 v2 M1 Q) ∧ (¬ v2 = 0 → e_ob M1 l0 4 ∧ e_ob M1 l0 4 ∧ e_ob M1 (gr M1 l0 1) 3 ∧ w_Heap_tagOf (gr M1 l0 1) v2 M1 (fun (v4 : Int32) (M3 : eM) => e_ob M3 l0 4 ∧ e_ob M3 (gr M3 l0 14) 6 ∧ e_ob M3 l0 4 ∧ e_ai M3 (gr M3 (gr M3 l0 14) 0) ((gi M3 l0 15) + 1) ∧ e_ob M3 (gr M1 l0 14) 6 ∧ w_Program_isOrBelow (gr M1 l0 14) v4 (gi M3 (gr M3 (gr M3 l0 14) 0) ((gi M3 l0 15) + 1).toNatClampNeg) M3 (fun (v6 : Int32) (M5 : eM) => (v6 = 0 → w_Machine_testClass_49 l0 l1 v2 M5 Q) ∧ (¬ v6 = 0 → w_Machine_testClass_50 l0 l1 v2 1 M5 Q)))))
theorem b_Machine_testClass {d : Nat} {l0 : Nat} {l1 : Int32} {M : eM} {Q : Int32 → eM → Prop} (hd : 2 ≤ d) (h : w_Machine_testClass l0 l1 M Q) : e_CI 54 d 0 0 [.ref l0, .int l1] M Q := by
  unfold w_Machine_testClass at h
  show e_E 54 d 0 0 0 [(0, .ref l0), (1, .int l1)] [] M (e_QI Q)
  refine r_aload_n (kd54 rfl) rfl rfl ?_
  obtain ⟨g, h⟩ := h
  refine r_get2 (kd54 rfl) (by decide) rfl g rfl ?_
  refine r_iconst (kd54 rfl) (y := 0) (by decide) rfl ?_
  obtain ⟨g, h⟩ := h
  refine r_callVI (d' := d - 1) (by omega) (kd54 rfl) (by decide) rfl rfl rfl rfl (Nat.le_of_ble_eq_true rfl) rfl L16 (Nat.le_of_ble_eq_true rfl) (Nat.le_of_ble_eq_true rfl) g (Nat.zero_le _) (Nat.zero_le _) rfl rfl rfl (b_Frames_peek (by omega) h) (fun x1 M1 h => ?_)
  refine r_istore_n (kd54 rfl) L54 (by decide) rfl rfl ?_
  refine r_iload_n (kd54 rfl) rfl rfl ?_
  refine r_if_eq (kd54 rfl) rfl (fun c => ?_) (fun c => ?_)
  · have h := h.1 c
    exact (b_Machine_testClass_49 hd h).less (e_sc (List.mem_of_getElem? (i := 1) rfl) (e_sc (List.mem_of_getElem? (i := 2) rfl) (e_sc (List.mem_of_getElem? (i := 0) rfl) e_sn)))
  · have h := h.2 c
    refine r_aload_n (kd54 rfl) rfl rfl ?_
    obtain ⟨g, h⟩ := h
    refine r_get2 (kd54 rfl) (by decide) rfl g rfl ?_
    refine r_aload_n (kd54 rfl) rfl rfl ?_
    obtain ⟨g, h⟩ := h
    refine r_get2 (kd54 rfl) (by decide) rfl g rfl ?_
    refine r_iload_n (kd54 rfl) rfl rfl ?_
    obtain ⟨g, h⟩ := h
    refine r_callVI (d' := d - 1) (by omega) (kd54 rfl) (by decide) rfl rfl rfl rfl (Nat.le_of_ble_eq_true rfl) rfl L26 (Nat.le_of_ble_eq_true rfl) (Nat.le_of_ble_eq_true rfl) g (Nat.zero_le _) (Nat.zero_le _) rfl rfl rfl (b_Heap_tagOf (by omega) h) (fun x1 M1 h => ?_)
    refine r_aload_n (kd54 rfl) rfl rfl ?_
    obtain ⟨g, h⟩ := h
    refine r_get2 (kd54 rfl) (by decide) rfl g rfl ?_
    obtain ⟨g, h⟩ := h
    refine r_get2 (kd54 rfl) (by decide) rfl g rfl ?_
    refine r_aload_n (kd54 rfl) rfl rfl ?_
    obtain ⟨g, h⟩ := h
    refine r_get0 (kd54 rfl) (by decide) rfl g rfl ?_
    refine r_iconst (kd54 rfl) (y := 1) (by decide) rfl ?_
    refine r_iadd (kd54 rfl) rfl ?_
    obtain ⟨g, h⟩ := h
    refine r_iaload (kd54 rfl) g rfl ?_
    obtain ⟨g, h⟩ := h
    refine r_callVI (d' := d - 1) (by omega) (kd54 rfl) (by decide) rfl rfl rfl rfl (Nat.le_of_ble_eq_true rfl) rfl L66 (Nat.le_of_ble_eq_true rfl) (Nat.le_of_ble_eq_true rfl) g (Nat.zero_le _) (Nat.zero_le _) rfl rfl rfl (b_Program_isOrBelow (by omega) h) (fun x1 M1 h => ?_)
    refine r_if_eq (kd54 rfl) rfl (fun c => ?_) (fun c => ?_)
    · have h := h.1 c
      exact (b_Machine_testClass_49 hd h).less (e_sc (List.mem_of_getElem? (i := 1) rfl) (e_sc (List.mem_of_getElem? (i := 2) rfl) (e_sc (List.mem_of_getElem? (i := 0) rfl) e_sn)))
    · have h := h.2 c
      refine r_iconst (kd54 rfl) (y := 1) (by decide) rfl ?_
      refine r_goto (kd54 rfl) ?_
      exact (b_Machine_testClass_50 hd h).less (e_sc (List.mem_of_getElem? (i := 1) rfl) (e_sc (List.mem_of_getElem? (i := 2) rfl) (e_sc (List.mem_of_getElem? (i := 0) rfl) e_sn)))
/-- TierMill$Tiers.giveUp(II)V -/
theorem kd89 {pc : Nat} {q : eI} (h : e_d89.lookup pc = some q) : e_dec 89 pc = some q := h
theorem L89 : (e_m 89).2.2.1 = 3 := rfl
theorem R89 : (e_m 89).2.2.2.1 = none := rfl
def w_Tiers_giveUp_24 (M : eM) (Q : eM → Prop) : Prop := Q M
theorem b_Tiers_giveUp_24 {d : Nat} {M : eM} {Q : eM → Prop} (hd : 0 ≤ d) (h : w_Tiers_giveUp_24 M Q ) : e_E 89 d 0 0 24 [] [] M (e_QV Q) := by
  unfold w_Tiers_giveUp_24 at h
  exact r_return (kd89 rfl) R89 h
def w_Tiers_giveUp (l0 : Nat) (l1 : Int32) (l2 : Int32) (M : eM) (Q : eM → Prop) : Prop := e_ob M l0 9 ∧ e_ai M (gr M l0 8) l1 ∧ (¬ (gi M (gr M l0 8) l1.toNatClampNeg) = l2 → w_Tiers_giveUp_24 M Q) ∧ ((gi M (gr M l0 8) l1.toNatClampNeg) = l2 → e_ob M l0 9 ∧ e_ar M (gr M l0 8) 20 l1 ∧ ∀ M1 : eM, M1 = e_si M (gr M l0 8) l1.toNatClampNeg (-1) → e_ob M1 l0 9 ∧ e_ar M1 (gr M1 l0 4) 20 l1 ∧ ∀ M2 : eM, M2 = e_si M1 (gr M1 l0 4) l1.toNatClampNeg 0 → w_Tiers_giveUp_24 M2 Q)
theorem b_Tiers_giveUp {d : Nat} {l0 : Nat} {l1 : Int32} {l2 : Int32} {M : eM} {Q : eM → Prop} (hd : 0 ≤ d) (h : w_Tiers_giveUp l0 l1 l2 M Q) : e_CV 89 d 0 0 [.ref l0, .int l1, .int l2] M Q := by
  unfold w_Tiers_giveUp at h
  show e_E 89 d 0 0 0 [(0, .ref l0), (1, .int l1), (2, .int l2)] [] M (e_QV Q)
  refine r_aload_n (kd89 rfl) rfl rfl ?_
  obtain ⟨g, h⟩ := h
  refine r_get2 (kd89 rfl) (by decide) rfl g rfl ?_
  refine r_iload_n (kd89 rfl) rfl rfl ?_
  obtain ⟨g, h⟩ := h
  refine r_iaload (kd89 rfl) g rfl ?_
  refine r_iload_n (kd89 rfl) rfl rfl ?_
  refine r_icmp_ne (kd89 rfl) rfl (fun c => ?_) (fun c => ?_)
  · have h := h.1 c
    exact (b_Tiers_giveUp_24 hd h).less e_sn
  · have h := h.2 c
    refine r_aload_n (kd89 rfl) rfl rfl ?_
    obtain ⟨g, h⟩ := h
    refine r_get2 (kd89 rfl) (by decide) rfl g rfl ?_
    refine r_iload_n (kd89 rfl) rfl rfl ?_
    refine r_iconst (kd89 rfl) (y := (-1)) (by decide) rfl ?_
    obtain ⟨g, h⟩ := h
    have h := h _ rfl
    refine r_iastore (kd89 rfl) g rfl ?_
    refine r_aload_n (kd89 rfl) rfl rfl ?_
    obtain ⟨g, h⟩ := h
    refine r_get2 (kd89 rfl) (by decide) rfl g rfl ?_
    refine r_iload_n (kd89 rfl) rfl rfl ?_
    refine r_iconst (kd89 rfl) (y := 0) (by decide) rfl ?_
    obtain ⟨g, h⟩ := h
    have h := h _ rfl
    refine r_iastore (kd89 rfl) g rfl ?_
    exact (b_Tiers_giveUp_24 hd h).less e_sn
/-- TierMill$Machine.failGuard(I)V -/
theorem kd57 {pc : Nat} {q : eI} (h : e_d57.lookup pc = some q) : e_dec 57 pc = some q := h
theorem L57 : (e_m 57).2.2.1 = 5 := rfl
theorem R57 : (e_m 57).2.2.2.1 = none := rfl
def w_Machine_failGuard_86 : Nat → Nat → Int32 → Int32 → eM → (eM → Prop) → Prop
  | 0, _, _, _, _, _ => False
  | n + 1, l0, l1, l4, M, Q => (l1 < l4 → Q M) ∧ (¬ l1 < l4 → e_ob M l0 4 ∧ e_ob M (gr M l0 0) 2 ∧ w_Frames_becomePlain (gr M l0 0) l4 M (fun (M5 : eM) => (fun l0 l1 l4 M => w_Machine_failGuard_86 n l0 l1 l4 M Q ) l0 l1 (l4 + 1) M5))
theorem b_Machine_failGuard_86 {d : Nat} {Q : eM → Prop} (hd : 1 ≤ d) (n : Nat) : ∀ (l0 : Nat) (l1 : Int32) (l4 : Int32) (M : eM), w_Machine_failGuard_86 n l0 l1 l4 M Q → e_E 57 d 0 0 86 [(0, .ref l0), (1, .int l1), (4, .int l4)] [] M (e_QV Q) := by
  induction n with
  | zero => intro l0 l1 l4 M h; exact False.elim h
  | succ n ih =>
    intro l0 l1 l4 M h
    have hk86 := ih
    refine r_iload (kd57 rfl) rfl rfl ?_
    refine r_iload_n (kd57 rfl) rfl rfl ?_
    refine r_icmp_gt (kd57 rfl) rfl (fun c => ?_) (fun c => ?_)
    · have h := h.1 c
      exact r_return (kd57 rfl) R57 h
    · have h := h.2 c
      refine r_aload_n (kd57 rfl) rfl rfl ?_
      obtain ⟨g, h⟩ := h
      refine r_get2 (kd57 rfl) (by decide) rfl g rfl ?_
      refine r_iload (kd57 rfl) rfl rfl ?_
      obtain ⟨g, h⟩ := h
      refine r_callVV (d' := d - 1) (by omega) (kd57 rfl) (by decide) rfl rfl rfl rfl (Nat.le_of_ble_eq_true rfl) rfl L13 (Nat.le_of_ble_eq_true rfl) (Nat.le_of_ble_eq_true rfl) g (Nat.zero_le _) (Nat.zero_le _) rfl rfl rfl (b_Frames_becomePlain (by omega) h) (fun M1 h => ?_)
      refine r_iinc (kd57 rfl) rfl (y := 1) (by decide) L57 (by decide) rfl rfl ?_
      refine r_goto (kd57 rfl) ?_
      exact (hk86 _ _ _ _ h).less (e_sc (List.mem_of_getElem? (i := 1) rfl) (e_sc (List.mem_of_getElem? (i := 2) rfl) (e_sc (List.mem_of_getElem? (i := 0) rfl) e_sn)))
def w_Machine_failGuard_25 (l0 : Nat) (l1 : Int32) (l2 : Int32) (M : eM) (Q : eM → Prop) : Prop := e_ob M l0 4 ∧ e_ob M (gr M l0 0) 2 ∧ e_ai M (gr M (gr M l0 0) 1) l2 ∧ e_ob M l0 4 ∧ e_ob M l0 4 ∧ e_ob M l0 4 ∧ e_ob M (gr M l0 0) 2 ∧ e_ai M (gr M (gr M l0 0) 1) l1 ∧ e_ob M l0 4 ∧ e_ob M (gr M l0 0) 2 ∧ e_ai M (gr M (gr M l0 0) 2) l1 ∧ e_ob M (gr M l0 3) 1 ∧ w_Entries_add (gr M l0 3) 2 (gi M l0 9) (gi M (gr M (gr M l0 0) 1) l2.toNatClampNeg) (gi M (gr M (gr M l0 0) 1) l1.toNatClampNeg) (gi M (gr M (gr M l0 0) 2) l1.toNatClampNeg) M (fun (M2 : eM) => e_ob M2 l0 4 ∧ e_ob M2 l0 4 ∧ e_ob M2 (gr M2 l0 0) 2 ∧ e_ai M2 (gr M2 (gr M2 l0 0) 4) l2 ∧ e_ob M2 (gr M2 l0 2) 9 ∧ w_Tiers_giveUp (gr M2 l0 2) (gi M (gr M (gr M l0 0) 1) l2.toNatClampNeg) (gi M2 (gr M2 (gr M2 l0 0) 4) l2.toNatClampNeg) M2 (fun (M3 : eM) => ∃ n4 : Nat, w_Machine_failGuard_86 n4 l0 l1 l2 M3 Q))
theorem b_Machine_failGuard_25 {d : Nat} {l0 : Nat} {l1 : Int32} {l2 : Int32} {M : eM} {Q : eM → Prop} (hd : 1 ≤ d) (h : w_Machine_failGuard_25 l0 l1 l2 M Q ) : e_E 57 d 0 0 25 [(0, .ref l0), (1, .int l1), (2, .int l2)] [] M (e_QV Q) := by
  unfold w_Machine_failGuard_25 at h
  refine r_aload_n (kd57 rfl) rfl rfl ?_
  obtain ⟨g, h⟩ := h
  refine r_get2 (kd57 rfl) (by decide) rfl g rfl ?_
  obtain ⟨g, h⟩ := h
  refine r_get2 (kd57 rfl) (by decide) rfl g rfl ?_
  refine r_iload_n (kd57 rfl) rfl rfl ?_
  obtain ⟨g, h⟩ := h
  refine r_iaload (kd57 rfl) g rfl ?_
  refine r_istore_n (kd57 rfl) L57 (by decide) rfl rfl ?_
  refine r_aload_n (kd57 rfl) rfl rfl ?_
  obtain ⟨g, h⟩ := h
  refine r_get2 (kd57 rfl) (by decide) rfl g rfl ?_
  refine r_iconst (kd57 rfl) (y := 2) (by decide) rfl ?_
  refine r_aload_n (kd57 rfl) rfl rfl ?_
  obtain ⟨g, h⟩ := h
  refine r_get0 (kd57 rfl) (by decide) rfl g rfl ?_
  refine r_iload_n (kd57 rfl) rfl rfl ?_
  refine r_aload_n (kd57 rfl) rfl rfl ?_
  obtain ⟨g, h⟩ := h
  refine r_get2 (kd57 rfl) (by decide) rfl g rfl ?_
  obtain ⟨g, h⟩ := h
  refine r_get2 (kd57 rfl) (by decide) rfl g rfl ?_
  refine r_iload_n (kd57 rfl) rfl rfl ?_
  obtain ⟨g, h⟩ := h
  refine r_iaload (kd57 rfl) g rfl ?_
  refine r_aload_n (kd57 rfl) rfl rfl ?_
  obtain ⟨g, h⟩ := h
  refine r_get2 (kd57 rfl) (by decide) rfl g rfl ?_
  obtain ⟨g, h⟩ := h
  refine r_get2 (kd57 rfl) (by decide) rfl g rfl ?_
  refine r_iload_n (kd57 rfl) rfl rfl ?_
  obtain ⟨g, h⟩ := h
  refine r_iaload (kd57 rfl) g rfl ?_
  obtain ⟨g, h⟩ := h
  refine r_callVV (d' := d - 1) (by omega) (kd57 rfl) (by decide) rfl rfl rfl rfl (Nat.le_of_ble_eq_true rfl) rfl L9 (Nat.le_of_ble_eq_true rfl) (Nat.le_of_ble_eq_true rfl) g (Nat.zero_le _) (Nat.zero_le _) rfl rfl rfl (b_Entries_add (by omega) h) (fun M1 h => ?_)
  refine r_aload_n (kd57 rfl) rfl rfl ?_
  obtain ⟨g, h⟩ := h
  refine r_get2 (kd57 rfl) (by decide) rfl g rfl ?_
  refine r_iload_n (kd57 rfl) rfl rfl ?_
  refine r_aload_n (kd57 rfl) rfl rfl ?_
  obtain ⟨g, h⟩ := h
  refine r_get2 (kd57 rfl) (by decide) rfl g rfl ?_
  obtain ⟨g, h⟩ := h
  refine r_get2 (kd57 rfl) (by decide) rfl g rfl ?_
  refine r_iload_n (kd57 rfl) rfl rfl ?_
  obtain ⟨g, h⟩ := h
  refine r_iaload (kd57 rfl) g rfl ?_
  obtain ⟨g, h⟩ := h
  refine r_callVV (d' := d - 1) (by omega) (kd57 rfl) (by decide) rfl rfl rfl rfl (Nat.le_of_ble_eq_true rfl) rfl L89 (Nat.le_of_ble_eq_true rfl) (Nat.le_of_ble_eq_true rfl) g (Nat.zero_le _) (Nat.zero_le _) rfl rfl rfl (b_Tiers_giveUp (by omega) h) (fun M1 h => ?_)
  refine r_iload_n (kd57 rfl) rfl rfl ?_
  refine r_istore (kd57 rfl) L57 (by decide) rfl rfl ?_
  obtain ⟨n, h⟩ := h
  exact (b_Machine_failGuard_86 hd n _ _ _ _ h).less (e_sc (List.mem_of_getElem? (i := 2) rfl) (e_sc (List.mem_of_getElem? (i := 3) rfl) (e_sc (List.mem_of_getElem? (i := 0) rfl) e_sn)))
def w_Machine_failGuard_2 : Nat → Nat → Int32 → Int32 → eM → (eM → Prop) → Prop
  | 0, _, _, _, _, _ => False
  | n + 1, l0, l1, l2, M, Q => (l2 ≤ 0 → w_Machine_failGuard_25 l0 l1 l2 M Q) ∧ (¬ l2 ≤ 0 → e_ob M l0 4 ∧ e_ob M (gr M l0 0) 2 ∧ e_ai M (gr M (gr M l0 0) 3) l2 ∧ (¬ (gi M (gr M (gr M l0 0) 3) l2.toNatClampNeg) = 2 → w_Machine_failGuard_25 l0 l1 l2 M Q) ∧ ((gi M (gr M (gr M l0 0) 3) l2.toNatClampNeg) = 2 → (fun l0 l1 l2 M => w_Machine_failGuard_2 n l0 l1 l2 M Q ) l0 l1 (l2 + (-1)) M))
theorem b_Machine_failGuard_2 {d : Nat} {Q : eM → Prop} (hd : 1 ≤ d) (n : Nat) : ∀ (l0 : Nat) (l1 : Int32) (l2 : Int32) (M : eM), w_Machine_failGuard_2 n l0 l1 l2 M Q → e_E 57 d 0 0 2 [(0, .ref l0), (1, .int l1), (2, .int l2)] [] M (e_QV Q) := by
  induction n with
  | zero => intro l0 l1 l2 M h; exact False.elim h
  | succ n ih =>
    intro l0 l1 l2 M h
    have hk2 := ih
    refine r_iload_n (kd57 rfl) rfl rfl ?_
    refine r_if_le (kd57 rfl) rfl (fun c => ?_) (fun c => ?_)
    · have h := h.1 c
      exact (b_Machine_failGuard_25 hd h).less (e_sc (List.mem_of_getElem? (i := 0) rfl) (e_sc (List.mem_of_getElem? (i := 1) rfl) (e_sc (List.mem_of_getElem? (i := 2) rfl) e_sn)))
    · have h := h.2 c
      refine r_aload_n (kd57 rfl) rfl rfl ?_
      obtain ⟨g, h⟩ := h
      refine r_get2 (kd57 rfl) (by decide) rfl g rfl ?_
      obtain ⟨g, h⟩ := h
      refine r_get2 (kd57 rfl) (by decide) rfl g rfl ?_
      refine r_iload_n (kd57 rfl) rfl rfl ?_
      obtain ⟨g, h⟩ := h
      refine r_iaload (kd57 rfl) g rfl ?_
      refine r_iconst (kd57 rfl) (y := 2) (by decide) rfl ?_
      refine r_icmp_ne (kd57 rfl) rfl (fun c => ?_) (fun c => ?_)
      · have h := h.1 c
        exact (b_Machine_failGuard_25 hd h).less (e_sc (List.mem_of_getElem? (i := 0) rfl) (e_sc (List.mem_of_getElem? (i := 1) rfl) (e_sc (List.mem_of_getElem? (i := 2) rfl) e_sn)))
      · have h := h.2 c
        refine r_iinc (kd57 rfl) rfl (y := (-1)) (by decide) L57 (by decide) rfl rfl ?_
        refine r_goto (kd57 rfl) ?_
        exact (hk2 _ _ _ _ h).less (e_sc (List.mem_of_getElem? (i := 1) rfl) (e_sc (List.mem_of_getElem? (i := 2) rfl) (e_sc (List.mem_of_getElem? (i := 0) rfl) e_sn)))
def w_Machine_failGuard (l0 : Nat) (l1 : Int32) (M : eM) (Q : eM → Prop) : Prop := ∃ n1 : Nat, w_Machine_failGuard_2 n1 l0 l1 l1 M Q
theorem b_Machine_failGuard {d : Nat} {l0 : Nat} {l1 : Int32} {M : eM} {Q : eM → Prop} (hd : 1 ≤ d) (h : w_Machine_failGuard l0 l1 M Q) : e_CV 57 d 0 0 [.ref l0, .int l1] M Q := by
  unfold w_Machine_failGuard at h
  show e_E 57 d 0 0 0 [(0, .ref l0), (1, .int l1)] [] M (e_QV Q)
  refine r_iload_n (kd57 rfl) rfl rfl ?_
  refine r_istore_n (kd57 rfl) L57 (by decide) rfl rfl ?_
  obtain ⟨n, h⟩ := h
  exact (b_Machine_failGuard_2 hd n _ _ _ _ h).less (e_sc (List.mem_of_getElem? (i := 1) rfl) (e_sc (List.mem_of_getElem? (i := 2) rfl) (e_sc (List.mem_of_getElem? (i := 0) rfl) e_sn)))
/-- TierMill$Plan.find(II)I -/
theorem kd63 {pc : Nat} {q : eI} (h : e_d63.lookup pc = some q) : e_dec 63 pc = some q := h
theorem L63 : (e_m 63).2.2.1 = 5 := rfl
theorem R63 : (e_m 63).2.2.2.1 = (some .int) := rfl
def w_Plan_find_29 : Nat → Nat → Int32 → Int32 → Int32 → eM → (Int32 → eM → Prop) → Prop
  | 0, _, _, _, _, _, _ => False
  | n + 1, l0, l2, l3, l4, M, Q => (l3 ≤ l4 → Q ((-1) : Int32) M) ∧ (¬ l3 ≤ l4 → e_ob M l0 5 ∧ e_ai M (gr M l0 2) ((l4 * 6) + 2) ∧ (¬ (gi M (gr M l0 2) ((l4 * 6) + 2).toNatClampNeg) = l2 → e_ob M l0 5 ∧ e_ai M (gr M l0 2) ((l4 * 6) + 5) ∧ (fun l0 l2 l3 l4 M => w_Plan_find_29 n l0 l2 l3 l4 M Q ) l0 l2 l3 (if (l4 + 1) < (gi M (gr M l0 2) ((l4 * 6) + 5).toNatClampNeg) then (gi M (gr M l0 2) ((l4 * 6) + 5).toNatClampNeg) else (l4 + 1)) M) ∧ ((gi M (gr M l0 2) ((l4 * 6) + 2).toNatClampNeg) = l2 → Q l4 M))
theorem b_Plan_find_29 {d : Nat} {Q : Int32 → eM → Prop} (hd : 0 ≤ d) (n : Nat) : ∀ (l0 : Nat) (l2 : Int32) (l3 : Int32) (l4 : Int32) (M : eM), w_Plan_find_29 n l0 l2 l3 l4 M Q → e_E 63 d 0 0 29 [(0, .ref l0), (2, .int l2), (3, .int l3), (4, .int l4)] [] M (e_QI Q) := by
  induction n with
  | zero => intro l0 l2 l3 l4 M h; exact False.elim h
  | succ n ih =>
    intro l0 l2 l3 l4 M h
    have hk29 := ih
    refine r_iload (kd63 rfl) rfl rfl ?_
    refine r_iload_n (kd63 rfl) rfl rfl ?_
    refine r_icmp_ge (kd63 rfl) rfl (fun c => ?_) (fun c => ?_)
    · have h := h.1 c
      refine r_iconst (kd63 rfl) (y := (-1)) (by decide) rfl ?_
      exact r_ireturn (kd63 rfl) R63 h
    · have h := h.2 c
      refine r_aload_n (kd63 rfl) rfl rfl ?_
      obtain ⟨g, h⟩ := h
      refine r_get2 (kd63 rfl) (by decide) rfl g rfl ?_
      refine r_iload (kd63 rfl) rfl rfl ?_
      refine r_bipush (kd63 rfl) (y := 6) (by decide) rfl ?_
      refine r_imul (kd63 rfl) rfl ?_
      refine r_iconst (kd63 rfl) (y := 2) (by decide) rfl ?_
      refine r_iadd (kd63 rfl) rfl ?_
      obtain ⟨g, h⟩ := h
      refine r_iaload (kd63 rfl) g rfl ?_
      refine r_iload_n (kd63 rfl) rfl rfl ?_
      refine r_icmp_ne (kd63 rfl) rfl (fun c => ?_) (fun c => ?_)
      · have h := h.1 c
        refine r_iload (kd63 rfl) rfl rfl ?_
        refine r_iconst (kd63 rfl) (y := 1) (by decide) rfl ?_
        refine r_iadd (kd63 rfl) rfl ?_
        refine r_aload_n (kd63 rfl) rfl rfl ?_
        obtain ⟨g, h⟩ := h
        refine r_get2 (kd63 rfl) (by decide) rfl g rfl ?_
        refine r_iload (kd63 rfl) rfl rfl ?_
        refine r_bipush (kd63 rfl) (y := 6) (by decide) rfl ?_
        refine r_imul (kd63 rfl) rfl ?_
        refine r_iconst (kd63 rfl) (y := 5) (by decide) rfl ?_
        refine r_iadd (kd63 rfl) rfl ?_
        obtain ⟨g, h⟩ := h
        refine r_iaload (kd63 rfl) g rfl ?_
        refine r_mmax (kd63 rfl) (Nat.le_of_ble_eq_true rfl) rfl ?_
        refine r_istore (kd63 rfl) L63 (by decide) rfl rfl ?_
        refine r_goto (kd63 rfl) ?_
        exact (hk29 _ _ _ _ _ h).less (e_sc (List.mem_of_getElem? (i := 1) rfl) (e_sc (List.mem_of_getElem? (i := 2) rfl) (e_sc (List.mem_of_getElem? (i := 3) rfl) (e_sc (List.mem_of_getElem? (i := 0) rfl) e_sn))))
      · have h := h.2 c
        refine r_iload (kd63 rfl) rfl rfl ?_
        exact r_ireturn (kd63 rfl) R63 h
def w_Plan_find_23 (l0 : Nat) (l1 : Int32) (l2 : Int32) (s0 : Int32) (M : eM) (Q : Int32 → eM → Prop) : Prop := ∃ n1 : Nat, w_Plan_find_29 n1 l0 l2 s0 (l1 + 1) M Q
theorem b_Plan_find_23 {d : Nat} {l0 : Nat} {l1 : Int32} {l2 : Int32} {s0 : Int32} {M : eM} {Q : Int32 → eM → Prop} (hd : 0 ≤ d) (h : w_Plan_find_23 l0 l1 l2 s0 M Q ) : e_E 63 d 0 0 23 [(0, .ref l0), (1, .int l1), (2, .int l2)] [.int s0] M (e_QI Q) := by
  unfold w_Plan_find_23 at h
  refine r_istore_n (kd63 rfl) L63 (by decide) rfl rfl ?_
  refine r_iload_n (kd63 rfl) rfl rfl ?_
  refine r_iconst (kd63 rfl) (y := 1) (by decide) rfl ?_
  refine r_iadd (kd63 rfl) rfl ?_
  refine r_istore (kd63 rfl) L63 (by decide) rfl rfl ?_
  obtain ⟨n, h⟩ := h
  exact (b_Plan_find_29 hd n _ _ _ _ _ h).less (e_sc (List.mem_of_getElem? (i := 2) rfl) (e_sc (List.mem_of_getElem? (i := 4) rfl) (e_sc (List.mem_of_getElem? (i := 1) rfl) (e_sc (List.mem_of_getElem? (i := 0) rfl) e_sn))))
def w_Plan_find (l0 : Nat) (l1 : Int32) (l2 : Int32) (M : eM) (Q : Int32 → eM → Prop) : Prop := (¬ l1 = (-1) → e_ob M l0 5 ∧ e_ai M (gr M l0 2) ((l1 * 6) + 5) ∧ w_Plan_find_23 l0 l1 l2 (gi M (gr M l0 2) ((l1 * 6) + 5).toNatClampNeg) M Q) ∧ (l1 = (-1) → e_ob M l0 5 ∧ w_Plan_find_23 l0 l1 l2 (gi M l0 0) M Q)
theorem b_Plan_find {d : Nat} {l0 : Nat} {l1 : Int32} {l2 : Int32} {M : eM} {Q : Int32 → eM → Prop} (hd : 0 ≤ d) (h : w_Plan_find l0 l1 l2 M Q) : e_CI 63 d 0 0 [.ref l0, .int l1, .int l2] M Q := by
  unfold w_Plan_find at h
  show e_E 63 d 0 0 0 [(0, .ref l0), (1, .int l1), (2, .int l2)] [] M (e_QI Q)
  refine r_iload_n (kd63 rfl) rfl rfl ?_
  refine r_iconst (kd63 rfl) (y := (-1)) (by decide) rfl ?_
  refine r_icmp_ne (kd63 rfl) rfl (fun c => ?_) (fun c => ?_)
  · have h := h.1 c
    refine r_aload_n (kd63 rfl) rfl rfl ?_
    obtain ⟨g, h⟩ := h
    refine r_get2 (kd63 rfl) (by decide) rfl g rfl ?_
    refine r_iload_n (kd63 rfl) rfl rfl ?_
    refine r_bipush (kd63 rfl) (y := 6) (by decide) rfl ?_
    refine r_imul (kd63 rfl) rfl ?_
    refine r_iconst (kd63 rfl) (y := 5) (by decide) rfl ?_
    refine r_iadd (kd63 rfl) rfl ?_
    obtain ⟨g, h⟩ := h
    refine r_iaload (kd63 rfl) g rfl ?_
    exact (b_Plan_find_23 hd h).less (e_sc (List.mem_of_getElem? (i := 0) rfl) (e_sc (List.mem_of_getElem? (i := 1) rfl) (e_sc (List.mem_of_getElem? (i := 2) rfl) e_sn)))
  · have h := h.2 c
    refine r_aload_n (kd63 rfl) rfl rfl ?_
    obtain ⟨g, h⟩ := h
    refine r_get0 (kd63 rfl) (by decide) rfl g rfl ?_
    refine r_goto (kd63 rfl) ?_
    exact (b_Plan_find_23 hd h).less (e_sc (List.mem_of_getElem? (i := 0) rfl) (e_sc (List.mem_of_getElem? (i := 1) rfl) (e_sc (List.mem_of_getElem? (i := 2) rfl) e_sn)))
/-- TierMill$Plan.guardOf(I)I -/
theorem kd64 {pc : Nat} {q : eI} (h : e_d64.lookup pc = some q) : e_dec 64 pc = some q := h
theorem L64 : (e_m 64).2.2.1 = 2 := rfl
theorem R64 : (e_m 64).2.2.2.1 = (some .int) := rfl
def w_Plan_guardOf (l0 : Nat) (l1 : Int32) (M : eM) (Q : Int32 → eM → Prop) : Prop := e_ob M l0 5 ∧ e_ai M (gr M l0 2) ((l1 * 6) + 3) ∧ Q (gi M (gr M l0 2) ((l1 * 6) + 3).toNatClampNeg) M
theorem b_Plan_guardOf {d : Nat} {l0 : Nat} {l1 : Int32} {M : eM} {Q : Int32 → eM → Prop} (hd : 0 ≤ d) (h : w_Plan_guardOf l0 l1 M Q) : e_CI 64 d 0 0 [.ref l0, .int l1] M Q := by
  unfold w_Plan_guardOf at h
  show e_E 64 d 0 0 0 [(0, .ref l0), (1, .int l1)] [] M (e_QI Q)
  refine r_aload_n (kd64 rfl) rfl rfl ?_
  obtain ⟨g, h⟩ := h
  refine r_get2 (kd64 rfl) (by decide) rfl g rfl ?_
  refine r_iload_n (kd64 rfl) rfl rfl ?_
  refine r_bipush (kd64 rfl) (y := 6) (by decide) rfl ?_
  refine r_imul (kd64 rfl) rfl ?_
  refine r_iconst (kd64 rfl) (y := 3) (by decide) rfl ?_
  refine r_iadd (kd64 rfl) rfl ?_
  obtain ⟨g, h⟩ := h
  refine r_iaload (kd64 rfl) g rfl ?_
  exact r_ireturn (kd64 rfl) R64 h
/-- TierMill$Tiers.planNumbered(I)LTierMill$Plan; -/
theorem kd87 {pc : Nat} {q : eI} (h : e_d87.lookup pc = some q) : e_dec 87 pc = some q := h
theorem L87 : (e_m 87).2.2.1 = 2 := rfl
theorem R87 : (e_m 87).2.2.2.1 = (some (.object "TierMill$Plan")) := rfl
def w_Tiers_planNumbered_22 (s0 : Nat) (M : eM) (Q : Nat → eM → Prop) : Prop := Q s0 M
theorem b_Tiers_planNumbered_22 {d : Nat} {s0 : Nat} {M : eM} {Q : Nat → eM → Prop} (hd : 0 ≤ d) (h : w_Tiers_planNumbered_22 s0 M Q ) : e_E 87 d 0 0 22 [] [.ref s0] M (e_QR Q) := by
  unfold w_Tiers_planNumbered_22 at h
  exact r_areturn (kd87 rfl) R87 (by first | exact Or.inl ⟨_, rfl⟩ | exact Or.inr ⟨_, rfl⟩) h
def w_Tiers_planNumbered_12 (M : eM) (Q : Nat → eM → Prop) : Prop := w_Tiers_planNumbered_22 0 M Q
theorem b_Tiers_planNumbered_12 {d : Nat} {M : eM} {Q : Nat → eM → Prop} (hd : 0 ≤ d) (h : w_Tiers_planNumbered_12 M Q ) : e_E 87 d 0 0 12 [] [] M (e_QR Q) := by
  unfold w_Tiers_planNumbered_12 at h
  refine r_aconst_null (kd87 rfl) rfl ?_
  refine r_goto (kd87 rfl) ?_
  exact (b_Tiers_planNumbered_22 hd h).less e_sn
def w_Tiers_planNumbered (l0 : Nat) (l1 : Int32) (M : eM) (Q : Nat → eM → Prop) : Prop := (l1 < 0 → w_Tiers_planNumbered_12 M Q) ∧ (¬ l1 < 0 → e_ob M l0 9 ∧ (l1 < (gi M l0 7) → e_ob M l0 9 ∧ (e_ar M (gr M l0 6) 23 l1 ∨ e_ar M (gr M l0 6) 24 l1) ∧ w_Tiers_planNumbered_22 (gr M (gr M l0 6) l1.toNatClampNeg) M Q) ∧ (¬ l1 < (gi M l0 7) → w_Tiers_planNumbered_12 M Q))
theorem b_Tiers_planNumbered {d : Nat} {l0 : Nat} {l1 : Int32} {M : eM} {Q : Nat → eM → Prop} (hd : 0 ≤ d) (h : w_Tiers_planNumbered l0 l1 M Q) : e_CR 87 d 0 0 [.ref l0, .int l1] M Q := by
  unfold w_Tiers_planNumbered at h
  show e_E 87 d 0 0 0 [(0, .ref l0), (1, .int l1)] [] M (e_QR Q)
  refine r_iload_n (kd87 rfl) rfl rfl ?_
  refine r_if_lt (kd87 rfl) rfl (fun c => ?_) (fun c => ?_)
  · have h := h.1 c
    exact (b_Tiers_planNumbered_12 hd h).less e_sn
  · have h := h.2 c
    refine r_iload_n (kd87 rfl) rfl rfl ?_
    refine r_aload_n (kd87 rfl) rfl rfl ?_
    obtain ⟨g, h⟩ := h
    refine r_get0 (kd87 rfl) (by decide) rfl g rfl ?_
    refine r_icmp_lt (kd87 rfl) rfl (fun c => ?_) (fun c => ?_)
    · have h := h.1 c
      refine r_aload_n (kd87 rfl) rfl rfl ?_
      obtain ⟨g, h⟩ := h
      refine r_get2 (kd87 rfl) (by decide) rfl g rfl ?_
      refine r_iload_n (kd87 rfl) rfl rfl ?_
      obtain ⟨g, h⟩ := h
      refine r_aaload (kd87 rfl) g rfl ?_
      exact (b_Tiers_planNumbered_22 hd h).less e_sn
    · have h := h.2 c
      exact (b_Tiers_planNumbered_12 hd h).less e_sn
/-- TierMill$Machine.rowOfCall(III)I -/
theorem kd56 {pc : Nat} {q : eI} (h : e_d56.lookup pc = some q) : e_dec 56 pc = some q := h
theorem L56 : (e_m 56).2.2.1 = 6 := rfl
theorem R56 : (e_m 56).2.2.2.1 = (some .int) := rfl
def w_Machine_rowOfCall_35 (M : eM) (Q : Int32 → eM → Prop) : Prop := Q ((-1) : Int32) M
theorem b_Machine_rowOfCall_35 {d : Nat} {M : eM} {Q : Int32 → eM → Prop} (hd : 2 ≤ d) (h : w_Machine_rowOfCall_35 M Q ) : e_E 56 d 0 0 35 [] [] M (e_QI Q) := by
  unfold w_Machine_rowOfCall_35 at h
  refine r_iconst (kd56 rfl) (y := (-1)) (by decide) rfl ?_
  exact r_ireturn (kd56 rfl) R56 h
def w_Machine_rowOfCall_92 (l5 : Int32) (M : eM) (Q : Int32 → eM → Prop) : Prop := Q l5 M
theorem b_Machine_rowOfCall_92 {d : Nat} {l5 : Int32} {M : eM} {Q : Int32 → eM → Prop} (hd : 2 ≤ d) (h : w_Machine_rowOfCall_92 l5 M Q ) : e_E 56 d 0 0 92 [(5, .int l5)] [] M (e_QI Q) := by
  unfold w_Machine_rowOfCall_92 at h
  refine r_iload (kd56 rfl) rfl rfl ?_
  exact r_ireturn (kd56 rfl) R56 h
def w_Machine_rowOfCall (l0 : Nat) (l1 : Int32) (l2 : Int32) (l3 : Int32) (M : eM) (Q : Int32 → eM → Prop) : Prop := e_ob M l0 4 ∧ e_ob M l0 4 ∧ e_ob M (gr M l0 0) 2 ∧ e_ai M (gr M (gr M l0 0) 4) l1 ∧ e_ob M (gr M l0 2) 9 ∧ w_Tiers_planNumbered (gr M l0 2) (gi M (gr M (gr M l0 0) 4) l1.toNatClampNeg) M (fun (v2 : Nat) (M1 : eM) => e_ob M1 l0 4 ∧ e_ob M1 (gr M1 l0 0) 2 ∧ e_ai M1 (gr M1 (gr M1 l0 0) 3) l1 ∧ ((gi M1 (gr M1 (gr M1 l0 0) 3) l1.toNatClampNeg) = 0 → w_Machine_rowOfCall_35 M1 Q) ∧ (¬ (gi M1 (gr M1 (gr M1 l0 0) 3) l1.toNatClampNeg) = 0 → (¬ v2 = 0 → e_ob M1 l0 4 ∧ e_ob M1 (gr M1 l0 0) 2 ∧ e_ai M1 (gr M1 (gr M1 l0 0) 5) l1 ∧ e_ob M1 l0 4 ∧ e_ob M1 (gr M1 l0 0) 2 ∧ e_ai M1 (gr M1 (gr M1 l0 0) 2) l1 ∧ e_ob M1 v2 5 ∧ w_Plan_find v2 (gi M1 (gr M1 (gr M1 l0 0) 5) l1.toNatClampNeg) (gi M1 (gr M1 (gr M1 l0 0) 2) l1.toNatClampNeg) M1 (fun (v4 : Int32) (M3 : eM) => (v4 = (-1) → w_Machine_rowOfCall_92 v4 M3 Q) ∧ (¬ v4 = (-1) → (¬ l2 = 48 → w_Machine_rowOfCall_92 v4 M3 Q) ∧ (l2 = 48 → e_ob M3 v2 5 ∧ w_Plan_guardOf v2 v4 M3 (fun (v6 : Int32) (M5 : eM) => (v6 = l3 → w_Machine_rowOfCall_92 v4 M5 Q) ∧ (¬ v6 = l3 → e_ob M5 l0 4 ∧ w_Machine_failGuard l0 l1 M5 (fun (M7 : eM) => Q ((-1) : Int32) M7))))))) ∧ (v2 = 0 → w_Machine_rowOfCall_35 M1 Q)))
theorem b_Machine_rowOfCall {d : Nat} {l0 : Nat} {l1 : Int32} {l2 : Int32} {l3 : Int32} {M : eM} {Q : Int32 → eM → Prop} (hd : 2 ≤ d) (h : w_Machine_rowOfCall l0 l1 l2 l3 M Q) : e_CI 56 d 0 0 [.ref l0, .int l1, .int l2, .int l3] M Q := by
  unfold w_Machine_rowOfCall at h
  show e_E 56 d 0 0 0 [(0, .ref l0), (1, .int l1), (2, .int l2), (3, .int l3)] [] M (e_QI Q)
  refine r_aload_n (kd56 rfl) rfl rfl ?_
  obtain ⟨g, h⟩ := h
  refine r_get2 (kd56 rfl) (by decide) rfl g rfl ?_
  refine r_aload_n (kd56 rfl) rfl rfl ?_
  obtain ⟨g, h⟩ := h
  refine r_get2 (kd56 rfl) (by decide) rfl g rfl ?_
  obtain ⟨g, h⟩ := h
  refine r_get2 (kd56 rfl) (by decide) rfl g rfl ?_
  refine r_iload_n (kd56 rfl) rfl rfl ?_
  obtain ⟨g, h⟩ := h
  refine r_iaload (kd56 rfl) g rfl ?_
  obtain ⟨g, h⟩ := h
  refine r_callVR (d' := d - 1) (by omega) (kd56 rfl) (by decide) rfl rfl rfl rfl (Nat.le_of_ble_eq_true rfl) rfl L87 (Nat.le_of_ble_eq_true rfl) (Nat.le_of_ble_eq_true rfl) g (Nat.zero_le _) (Nat.zero_le _) rfl rfl rfl (b_Tiers_planNumbered (by omega) h) (fun x1 M1 h => ?_)
  refine r_astore (kd56 rfl) L56 (by decide) rfl rfl ?_
  refine r_aload_n (kd56 rfl) rfl rfl ?_
  obtain ⟨g, h⟩ := h
  refine r_get2 (kd56 rfl) (by decide) rfl g rfl ?_
  obtain ⟨g, h⟩ := h
  refine r_get2 (kd56 rfl) (by decide) rfl g rfl ?_
  refine r_iload_n (kd56 rfl) rfl rfl ?_
  obtain ⟨g, h⟩ := h
  refine r_iaload (kd56 rfl) g rfl ?_
  refine r_if_eq (kd56 rfl) rfl (fun c => ?_) (fun c => ?_)
  · have h := h.1 c
    exact (b_Machine_rowOfCall_35 hd h).less e_sn
  · have h := h.2 c
    refine r_aload (kd56 rfl) rfl rfl ?_
    refine r_ifnonnull (kd56 rfl) rfl (fun c => ?_) (fun c => ?_)
    · have h := h.1 c
      refine r_aload (kd56 rfl) rfl rfl ?_
      refine r_aload_n (kd56 rfl) rfl rfl ?_
      obtain ⟨g, h⟩ := h
      refine r_get2 (kd56 rfl) (by decide) rfl g rfl ?_
      obtain ⟨g, h⟩ := h
      refine r_get2 (kd56 rfl) (by decide) rfl g rfl ?_
      refine r_iload_n (kd56 rfl) rfl rfl ?_
      obtain ⟨g, h⟩ := h
      refine r_iaload (kd56 rfl) g rfl ?_
      refine r_aload_n (kd56 rfl) rfl rfl ?_
      obtain ⟨g, h⟩ := h
      refine r_get2 (kd56 rfl) (by decide) rfl g rfl ?_
      obtain ⟨g, h⟩ := h
      refine r_get2 (kd56 rfl) (by decide) rfl g rfl ?_
      refine r_iload_n (kd56 rfl) rfl rfl ?_
      obtain ⟨g, h⟩ := h
      refine r_iaload (kd56 rfl) g rfl ?_
      obtain ⟨g, h⟩ := h
      refine r_callVI (d' := d - 1) (by omega) (kd56 rfl) (by decide) rfl rfl rfl rfl (Nat.le_of_ble_eq_true rfl) rfl L63 (Nat.le_of_ble_eq_true rfl) (Nat.le_of_ble_eq_true rfl) g (Nat.zero_le _) (Nat.zero_le _) rfl rfl rfl (b_Plan_find (by omega) h) (fun x1 M1 h => ?_)
      refine r_istore (kd56 rfl) L56 (by decide) rfl rfl ?_
      refine r_iload (kd56 rfl) rfl rfl ?_
      refine r_iconst (kd56 rfl) (y := (-1)) (by decide) rfl ?_
      refine r_icmp_eq (kd56 rfl) rfl (fun c => ?_) (fun c => ?_)
      · have h := h.1 c
        exact (b_Machine_rowOfCall_92 hd h).less (e_sc (List.mem_of_getElem? (i := 0) rfl) e_sn)
      · have h := h.2 c
        refine r_iload_n (kd56 rfl) rfl rfl ?_
        refine r_bipush (kd56 rfl) (y := 48) (by decide) rfl ?_
        refine r_icmp_ne (kd56 rfl) rfl (fun c => ?_) (fun c => ?_)
        · have h := h.1 c
          exact (b_Machine_rowOfCall_92 hd h).less (e_sc (List.mem_of_getElem? (i := 0) rfl) e_sn)
        · have h := h.2 c
          refine r_aload (kd56 rfl) rfl rfl ?_
          refine r_iload (kd56 rfl) rfl rfl ?_
          obtain ⟨g, h⟩ := h
          refine r_callVI (d' := d - 1) (by omega) (kd56 rfl) (by decide) rfl rfl rfl rfl (Nat.le_of_ble_eq_true rfl) rfl L64 (Nat.le_of_ble_eq_true rfl) (Nat.le_of_ble_eq_true rfl) g (Nat.zero_le _) (Nat.zero_le _) rfl rfl rfl (b_Plan_guardOf (by omega) h) (fun x1 M1 h => ?_)
          refine r_iload_n (kd56 rfl) rfl rfl ?_
          refine r_icmp_eq (kd56 rfl) rfl (fun c => ?_) (fun c => ?_)
          · have h := h.1 c
            exact (b_Machine_rowOfCall_92 hd h).less (e_sc (List.mem_of_getElem? (i := 0) rfl) e_sn)
          · have h := h.2 c
            refine r_aload_n (kd56 rfl) rfl rfl ?_
            refine r_iload_n (kd56 rfl) rfl rfl ?_
            obtain ⟨g, h⟩ := h
            refine r_callVV (d' := d - 1) (by omega) (kd56 rfl) (by decide) rfl rfl rfl rfl (Nat.le_of_ble_eq_true rfl) rfl L57 (Nat.le_of_ble_eq_true rfl) (Nat.le_of_ble_eq_true rfl) g (Nat.zero_le _) (Nat.zero_le _) rfl rfl rfl (b_Machine_failGuard (by omega) h) (fun M1 h => ?_)
            refine r_iconst (kd56 rfl) (y := (-1)) (by decide) rfl ?_
            exact r_ireturn (kd56 rfl) R56 h
    · have h := h.2 c
      exact (b_Machine_rowOfCall_35 hd h).less e_sn
/-- TierMill$Machine.call(I)I -/
theorem kd55 {pc : Nat} {q : eI} (h : e_d55.lookup pc = some q) : e_dec 55 pc = some q := h
theorem L55 : (e_m 55).2.2.1 = 7 := rfl
theorem R55 : (e_m 55).2.2.2.1 = (some .int) := rfl
set_option maxRecDepth 100000 in
def w_Machine_call_208 (kc ks : Nat) (l0 : Nat) (l3 : Int32) (M : eM) (Q : Int32 → eM → Prop) : Prop := e_ob M l0 4 ∧ e_ob M l0 4 ∧ e_ob M (gr M l0 14) 6 ∧ (e_ar M (gr M (gr M l0 14) 10) 23 l3 ∨ e_ar M (gr M (gr M l0 14) 10) 24 l3) ∧ e_ob M (gr M (gr M (gr M l0 14) 10) l3.toNatClampNeg) 8 ∧ e_ob M (gr M l0 0) 2 ∧ w_Frames_handOver (gr M l0 0) (gi M (gr M (gr M (gr M l0 14) 10) l3.toNatClampNeg) 1) M (fun (M13 : eM) => Q (0 : Int32) M13)
set_option maxRecDepth 100000 in
theorem b_Machine_call_208 {d : Nat} {kc ks : Nat} {l0 : Nat} {l3 : Int32} {M : eM} {Q : Int32 → eM → Prop} (hd : 10 ≤ d) (h : w_Machine_call_208 kc ks l0 l3 M Q ) : e_E 55 d kc ks 208 [(0, .ref l0), (3, .int l3)] [] M (e_QI Q) := by
  unfold w_Machine_call_208 at h
  refine r_aload_n (kd55 rfl) rfl rfl ?_
  obtain ⟨g, h⟩ := h
  refine r_get2 (kd55 rfl) (by decide) rfl g rfl ?_
  refine r_aload_n (kd55 rfl) rfl rfl ?_
  obtain ⟨g, h⟩ := h
  refine r_get2 (kd55 rfl) (by decide) rfl g rfl ?_
  obtain ⟨g, h⟩ := h
  refine r_get2 (kd55 rfl) (by decide) rfl g rfl ?_
  refine r_iload_n (kd55 rfl) rfl rfl ?_
  obtain ⟨g, h⟩ := h
  refine r_aaload (kd55 rfl) g rfl ?_
  obtain ⟨g, h⟩ := h
  refine r_get0 (kd55 rfl) (by decide) rfl g rfl ?_
  obtain ⟨g, h⟩ := h
  refine r_callVV (d' := d - 1) (by omega) (kd55 rfl) (by decide) rfl rfl rfl rfl (Nat.le_of_ble_eq_true rfl) rfl L15 (Nat.le_of_ble_eq_true rfl) (Nat.le_of_ble_eq_true rfl) g (Nat.zero_le _) (Nat.zero_le _) rfl rfl rfl (b_Frames_handOver (by omega) h) (fun M1 h => ?_)
  refine r_iconst (kd55 rfl) (y := 0) (by decide) rfl ?_
  exact r_ireturn (kd55 rfl) R55 h
set_option maxRecDepth 100000 in
def w_Machine_call_161 (kc ks : Nat) (l0 : Nat) (l1 : Int32) (l3 : Int32) (l5 : Int32) (l6 : Int32) (M : eM) (Q : Int32 → eM → Prop) : Prop := e_ob M l0 4 ∧ e_ai M 2 l1 ∧ e_ob M (gr M l0 0) 2 ∧ w_Frames_goOn (gr M l0 0) (gi M 2 l1.toNatClampNeg) M (fun (M8 : eM) => (¬ l6 = (-1) → e_ob M8 l0 4 ∧ e_ob M8 l0 4 ∧ e_ob M8 (gr M8 l0 0) 2 ∧ e_ai M8 (gr M8 (gr M8 l0 0) 4) l5 ∧ e_ob M8 (gr M8 l0 0) 2 ∧ w_Frames_open (gr M8 l0 0) l3 2 (gi M8 (gr M8 (gr M8 l0 0) 4) l5.toNatClampNeg) l6 M8 (fun (M9 : eM) => w_Machine_call_208 kc ks l0 l3 M9 Q)) ∧ (l6 = (-1) → e_ob M8 l0 4 ∧ ∃ kc11 ks12 : Nat, kc11 ≤ kc ∧ ks12 ≤ ks ∧ w_Machine_openInvoked kc11 ks12 l0 l3 M8 (fun (M10 : eM) => w_Machine_call_208 (kc - kc11) (ks - ks12) l0 l3 M10 Q)))
set_option maxRecDepth 100000 in
theorem b_Machine_call_161 {d : Nat} {kc ks : Nat} {l0 : Nat} {l1 : Int32} {l3 : Int32} {l5 : Int32} {l6 : Int32} {M : eM} {Q : Int32 → eM → Prop} (hd : 10 ≤ d) (h : w_Machine_call_161 kc ks l0 l1 l3 l5 l6 M Q ) : e_E 55 d kc ks 161 [(0, .ref l0), (1, .int l1), (3, .int l3), (5, .int l5), (6, .int l6)] [] M (e_QI Q) := by
  unfold w_Machine_call_161 at h
  refine r_aload_n (kd55 rfl) rfl rfl ?_
  obtain ⟨g, h⟩ := h
  refine r_get2 (kd55 rfl) (by decide) rfl g rfl ?_
  refine r_getstatic (kd55 rfl) (by decide) rfl ?_
  refine r_iload_n (kd55 rfl) rfl rfl ?_
  obtain ⟨g, h⟩ := h
  refine r_iaload (kd55 rfl) g rfl ?_
  obtain ⟨g, h⟩ := h
  refine r_callVV (d' := d - 1) (by omega) (kd55 rfl) (by decide) rfl rfl rfl rfl (Nat.le_of_ble_eq_true rfl) rfl L19 (Nat.le_of_ble_eq_true rfl) (Nat.le_of_ble_eq_true rfl) g (Nat.zero_le _) (Nat.zero_le _) rfl rfl rfl (b_Frames_goOn (by omega) h) (fun M1 h => ?_)
  refine r_iload (kd55 rfl) rfl rfl ?_
  refine r_iconst (kd55 rfl) (y := (-1)) (by decide) rfl ?_
  refine r_icmp_ne (kd55 rfl) rfl (fun c => ?_) (fun c => ?_)
  · have h := h.1 c
    refine r_aload_n (kd55 rfl) rfl rfl ?_
    obtain ⟨g, h⟩ := h
    refine r_get2 (kd55 rfl) (by decide) rfl g rfl ?_
    refine r_iload_n (kd55 rfl) rfl rfl ?_
    refine r_iconst (kd55 rfl) (y := 2) (by decide) rfl ?_
    refine r_aload_n (kd55 rfl) rfl rfl ?_
    obtain ⟨g, h⟩ := h
    refine r_get2 (kd55 rfl) (by decide) rfl g rfl ?_
    obtain ⟨g, h⟩ := h
    refine r_get2 (kd55 rfl) (by decide) rfl g rfl ?_
    refine r_iload (kd55 rfl) rfl rfl ?_
    obtain ⟨g, h⟩ := h
    refine r_iaload (kd55 rfl) g rfl ?_
    refine r_iload (kd55 rfl) rfl rfl ?_
    obtain ⟨g, h⟩ := h
    refine r_callVV (d' := d - 1) (by omega) (kd55 rfl) (by decide) rfl rfl rfl rfl (Nat.le_of_ble_eq_true rfl) rfl L12 (Nat.le_of_ble_eq_true rfl) (Nat.le_of_ble_eq_true rfl) g (Nat.zero_le _) (Nat.zero_le _) rfl rfl rfl (b_Frames_open (by omega) h) (fun M1 h => ?_)
    exact (b_Machine_call_208 hd h).less (e_sc (List.mem_of_getElem? (i := 0) rfl) (e_sc (List.mem_of_getElem? (i := 2) rfl) e_sn))
  · have h := h.2 c
    refine r_aload_n (kd55 rfl) rfl rfl ?_
    refine r_iload_n (kd55 rfl) rfl rfl ?_
    obtain ⟨g, h⟩ := h
    obtain ⟨mc, ms, q1, q2, h⟩ := h
    refine r_callVV (d' := d - 1) (by omega) (kd55 rfl) (by decide) rfl rfl rfl rfl (Nat.le_of_ble_eq_true rfl) rfl L58 (Nat.le_of_ble_eq_true rfl) (Nat.le_of_ble_eq_true rfl) g q1 q2 rfl rfl rfl (b_Machine_openInvoked (by omega) h) (fun M1 h => ?_)
    refine r_goto (kd55 rfl) ?_
    exact (b_Machine_call_208 hd h).less (e_sc (List.mem_of_getElem? (i := 0) rfl) (e_sc (List.mem_of_getElem? (i := 2) rfl) e_sn))
set_option maxRecDepth 100000 in
def w_Machine_call_81 (kc ks : Nat) (l0 : Nat) (l1 : Int32) (l3 : Int32) (l4 : Int32) (M : eM) (Q : Int32 → eM → Prop) : Prop := e_ob M l0 4 ∧ e_ob M (gr M l0 0) 2 ∧ ((gi M (gr M l0 0) 0) < 64 → e_ob M l0 4 ∧ e_ob M (gr M l0 0) 2 ∧ e_ob M l0 4 ∧ w_Machine_rowOfCall l0 ((gi M (gr M l0 0) 0) - 1) l1 l4 M (fun (v6 : Int32) (M5 : eM) => e_ob M5 l0 4 ∧ e_ob M5 (gr M5 l0 0) 2 ∧ e_ai M5 (gr M5 (gr M5 l0 0) 3) ((gi M (gr M l0 0) 0) - 1) ∧ (¬ (gi M5 (gr M5 (gr M5 l0 0) 3) ((gi M (gr M l0 0) 0) - 1).toNatClampNeg) = 0 → w_Machine_call_161 kc ks l0 l1 l3 ((gi M (gr M l0 0) 0) - 1) v6 M5 Q) ∧ ((gi M5 (gr M5 (gr M5 l0 0) 3) ((gi M (gr M l0 0) 0) - 1).toNatClampNeg) = 0 → e_ob M5 l0 4 ∧ e_ob M5 (gr M5 l0 2) 9 ∧ e_ob M5 l0 4 ∧ e_ob M5 (gr M5 l0 14) 6 ∧ e_ob M5 l0 4 ∧ e_ai M5 (gr M5 (gr M5 l0 14) 13) (gi M5 l0 15) ∧ e_ai M5 (gr M5 (gr M5 l0 2) 5) (((gi M5 (gr M5 (gr M5 l0 14) 13) (gi M5 l0 15).toNatClampNeg) * 8) + l4) ∧ e_ar M5 (gr M5 (gr M5 l0 2) 5) 20 (((gi M5 (gr M5 (gr M5 l0 14) 13) (gi M5 l0 15).toNatClampNeg) * 8) + l4) ∧ ∀ M7 : eM, M7 = e_si M5 (gr M5 (gr M5 l0 2) 5) (((gi M5 (gr M5 (gr M5 l0 14) 13) (gi M5 l0 15).toNatClampNeg) * 8) + l4).toNatClampNeg ((gi M5 (gr M5 (gr M5 l0 2) 5) (((gi M5 (gr M5 (gr M5 l0 14) 13) (gi M5 l0 15).toNatClampNeg) * 8) + l4).toNatClampNeg) + 1) → w_Machine_call_161 kc ks l0 l1 l3 ((gi M (gr M l0 0) 0) - 1) v6 M7 Q))) ∧ (¬ (gi M (gr M l0 0) 0) < 64 → Q (7 : Int32) M)
set_option maxRecDepth 100000 in
theorem b_Machine_call_81 {d : Nat} {kc ks : Nat} {l0 : Nat} {l1 : Int32} {l3 : Int32} {l4 : Int32} {M : eM} {Q : Int32 → eM → Prop} (hd : 10 ≤ d) (h : w_Machine_call_81 kc ks l0 l1 l3 l4 M Q ) : e_E 55 d kc ks 81 [(0, .ref l0), (1, .int l1), (3, .int l3), (4, .int l4)] [] M (e_QI Q) := by
  unfold w_Machine_call_81 at h
  refine r_aload_n (kd55 rfl) rfl rfl ?_
  obtain ⟨g, h⟩ := h
  refine r_get2 (kd55 rfl) (by decide) rfl g rfl ?_
  obtain ⟨g, h⟩ := h
  refine r_get0 (kd55 rfl) (by decide) rfl g rfl ?_
  refine r_bipush (kd55 rfl) (y := 64) (by decide) rfl ?_
  refine r_icmp_lt (kd55 rfl) rfl (fun c => ?_) (fun c => ?_)
  · have h := h.1 c
    refine r_aload_n (kd55 rfl) rfl rfl ?_
    obtain ⟨g, h⟩ := h
    refine r_get2 (kd55 rfl) (by decide) rfl g rfl ?_
    obtain ⟨g, h⟩ := h
    refine r_get0 (kd55 rfl) (by decide) rfl g rfl ?_
    refine r_iconst (kd55 rfl) (y := 1) (by decide) rfl ?_
    refine r_isub (kd55 rfl) rfl ?_
    refine r_istore (kd55 rfl) L55 (by decide) rfl rfl ?_
    refine r_aload_n (kd55 rfl) rfl rfl ?_
    refine r_iload (kd55 rfl) rfl rfl ?_
    refine r_iload_n (kd55 rfl) rfl rfl ?_
    refine r_iload (kd55 rfl) rfl rfl ?_
    obtain ⟨g, h⟩ := h
    refine r_callVI (d' := d - 1) (by omega) (kd55 rfl) (by decide) rfl rfl rfl rfl (Nat.le_of_ble_eq_true rfl) rfl L56 (Nat.le_of_ble_eq_true rfl) (Nat.le_of_ble_eq_true rfl) g (Nat.zero_le _) (Nat.zero_le _) rfl rfl rfl (b_Machine_rowOfCall (by omega) h) (fun x1 M1 h => ?_)
    refine r_istore (kd55 rfl) L55 (by decide) rfl rfl ?_
    refine r_aload_n (kd55 rfl) rfl rfl ?_
    obtain ⟨g, h⟩ := h
    refine r_get2 (kd55 rfl) (by decide) rfl g rfl ?_
    obtain ⟨g, h⟩ := h
    refine r_get2 (kd55 rfl) (by decide) rfl g rfl ?_
    refine r_iload (kd55 rfl) rfl rfl ?_
    obtain ⟨g, h⟩ := h
    refine r_iaload (kd55 rfl) g rfl ?_
    refine r_if_ne (kd55 rfl) rfl (fun c => ?_) (fun c => ?_)
    · have h := h.1 c
      exact (b_Machine_call_161 hd h).less (e_sc (List.mem_of_getElem? (i := 2) rfl) (e_sc (List.mem_of_getElem? (i := 3) rfl) (e_sc (List.mem_of_getElem? (i := 4) rfl) (e_sc (List.mem_of_getElem? (i := 1) rfl) (e_sc (List.mem_of_getElem? (i := 0) rfl) e_sn)))))
    · have h := h.2 c
      refine r_aload_n (kd55 rfl) rfl rfl ?_
      obtain ⟨g, h⟩ := h
      refine r_get2 (kd55 rfl) (by decide) rfl g rfl ?_
      obtain ⟨g, h⟩ := h
      refine r_get2 (kd55 rfl) (by decide) rfl g rfl ?_
      refine r_aload_n (kd55 rfl) rfl rfl ?_
      obtain ⟨g, h⟩ := h
      refine r_get2 (kd55 rfl) (by decide) rfl g rfl ?_
      obtain ⟨g, h⟩ := h
      refine r_get2 (kd55 rfl) (by decide) rfl g rfl ?_
      refine r_aload_n (kd55 rfl) rfl rfl ?_
      obtain ⟨g, h⟩ := h
      refine r_get0 (kd55 rfl) (by decide) rfl g rfl ?_
      obtain ⟨g, h⟩ := h
      refine r_iaload (kd55 rfl) g rfl ?_
      refine r_bipush (kd55 rfl) (y := 8) (by decide) rfl ?_
      refine r_imul (kd55 rfl) rfl ?_
      refine r_iload (kd55 rfl) rfl rfl ?_
      refine r_iadd (kd55 rfl) rfl ?_
      refine r_dup2 (kd55 rfl) rfl rfl rfl ?_
      obtain ⟨g, h⟩ := h
      refine r_iaload (kd55 rfl) g rfl ?_
      refine r_iconst (kd55 rfl) (y := 1) (by decide) rfl ?_
      refine r_iadd (kd55 rfl) rfl ?_
      obtain ⟨g, h⟩ := h
      have h := h _ rfl
      refine r_iastore (kd55 rfl) g rfl ?_
      exact (b_Machine_call_161 hd h).less (e_sc (List.mem_of_getElem? (i := 2) rfl) (e_sc (List.mem_of_getElem? (i := 3) rfl) (e_sc (List.mem_of_getElem? (i := 4) rfl) (e_sc (List.mem_of_getElem? (i := 1) rfl) (e_sc (List.mem_of_getElem? (i := 0) rfl) e_sn)))))
  · have h := h.2 c
    refine r_bipush (kd55 rfl) (y := 7) (by decide) rfl ?_
    exact r_ireturn (kd55 rfl) R55 h
set_option maxRecDepth 100000 in
def w_Machine_call (kc ks : Nat) (l0 : Nat) (l1 : Int32) (M : eM) (Q : Int32 → eM → Prop) : Prop := e_ob M l0 4 ∧ e_ob M (gr M l0 14) 6 ∧ e_ob M l0 4 ∧ e_ai M (gr M (gr M l0 14) 0) ((gi M l0 15) + 1) ∧ (¬ l1 = 48 → w_Machine_call_81 kc ks l0 l1 (gi M (gr M (gr M l0 14) 0) ((gi M l0 15) + 1).toNatClampNeg) 0 M Q) ∧ (l1 = 48 → e_ob M l0 4 ∧ e_ob M l0 4 ∧ e_ob M (gr M l0 14) 6 ∧ (e_ar M (gr M (gr M l0 14) 8) 23 (gi M (gr M (gr M l0 14) 0) ((gi M l0 15) + 1).toNatClampNeg) ∨ e_ar M (gr M (gr M l0 14) 8) 24 (gi M (gr M (gr M l0 14) 0) ((gi M l0 15) + 1).toNatClampNeg)) ∧ e_ob M (gr M (gr M (gr M l0 14) 8) (gi M (gr M (gr M l0 14) 0) ((gi M l0 15) + 1).toNatClampNeg).toNatClampNeg) 8 ∧ e_ob M (gr M l0 0) 2 ∧ w_Frames_peek (gr M l0 0) (gi M (gr M (gr M (gr M l0 14) 8) (gi M (gr M (gr M l0 14) 0) ((gi M l0 15) + 1).toNatClampNeg).toNatClampNeg) 1) M (fun (v2 : Int32) (M1 : eM) => (¬ v2 = 0 → e_ob M1 l0 4 ∧ e_ob M1 (gr M1 l0 1) 3 ∧ w_Heap_tagOf (gr M1 l0 1) v2 M1 (fun (v4 : Int32) (M3 : eM) => e_ob M3 l0 4 ∧ e_ob M3 (gr M3 l0 14) 6 ∧ e_ai M3 (gr M3 (gr M3 l0 14) 11) ((v4 * 8) + (gi M (gr M (gr M l0 14) 0) ((gi M l0 15) + 1).toNatClampNeg)) ∧ w_Machine_call_81 kc ks l0 l1 (gi M3 (gr M3 (gr M3 l0 14) 11) ((v4 * 8) + (gi M (gr M (gr M l0 14) 0) ((gi M l0 15) + 1).toNatClampNeg)).toNatClampNeg) v4 M3 Q)) ∧ (v2 = 0 → Q (2 : Int32) M1)))
set_option maxRecDepth 100000 in
theorem b_Machine_call {d : Nat} {kc ks : Nat} {l0 : Nat} {l1 : Int32} {M : eM} {Q : Int32 → eM → Prop} (hd : 10 ≤ d) (h : w_Machine_call kc ks l0 l1 M Q) : e_CI 55 d kc ks [.ref l0, .int l1] M Q := by
  unfold w_Machine_call at h
  show e_E 55 d kc ks 0 [(0, .ref l0), (1, .int l1)] [] M (e_QI Q)
  refine r_aload_n (kd55 rfl) rfl rfl ?_
  obtain ⟨g, h⟩ := h
  refine r_get2 (kd55 rfl) (by decide) rfl g rfl ?_
  obtain ⟨g, h⟩ := h
  refine r_get2 (kd55 rfl) (by decide) rfl g rfl ?_
  refine r_aload_n (kd55 rfl) rfl rfl ?_
  obtain ⟨g, h⟩ := h
  refine r_get0 (kd55 rfl) (by decide) rfl g rfl ?_
  refine r_iconst (kd55 rfl) (y := 1) (by decide) rfl ?_
  refine r_iadd (kd55 rfl) rfl ?_
  obtain ⟨g, h⟩ := h
  refine r_iaload (kd55 rfl) g rfl ?_
  refine r_istore_n (kd55 rfl) L55 (by decide) rfl rfl ?_
  refine r_iload_n (kd55 rfl) rfl rfl ?_
  refine r_istore_n (kd55 rfl) L55 (by decide) rfl rfl ?_
  refine r_iconst (kd55 rfl) (y := 0) (by decide) rfl ?_
  refine r_istore (kd55 rfl) L55 (by decide) rfl rfl ?_
  refine r_iload_n (kd55 rfl) rfl rfl ?_
  refine r_bipush (kd55 rfl) (y := 48) (by decide) rfl ?_
  refine r_icmp_ne (kd55 rfl) rfl (fun c => ?_) (fun c => ?_)
  · have h := h.1 c
    exact (b_Machine_call_81 hd h).less (e_sc (List.mem_of_getElem? (i := 3) rfl) (e_sc (List.mem_of_getElem? (i := 4) rfl) (e_sc (List.mem_of_getElem? (i := 1) rfl) (e_sc (List.mem_of_getElem? (i := 0) rfl) e_sn))))
  · have h := h.2 c
    refine r_aload_n (kd55 rfl) rfl rfl ?_
    obtain ⟨g, h⟩ := h
    refine r_get2 (kd55 rfl) (by decide) rfl g rfl ?_
    refine r_aload_n (kd55 rfl) rfl rfl ?_
    obtain ⟨g, h⟩ := h
    refine r_get2 (kd55 rfl) (by decide) rfl g rfl ?_
    obtain ⟨g, h⟩ := h
    refine r_get2 (kd55 rfl) (by decide) rfl g rfl ?_
    refine r_iload_n (kd55 rfl) rfl rfl ?_
    obtain ⟨g, h⟩ := h
    refine r_aaload (kd55 rfl) g rfl ?_
    obtain ⟨g, h⟩ := h
    refine r_get0 (kd55 rfl) (by decide) rfl g rfl ?_
    obtain ⟨g, h⟩ := h
    refine r_callVI (d' := d - 1) (by omega) (kd55 rfl) (by decide) rfl rfl rfl rfl (Nat.le_of_ble_eq_true rfl) rfl L16 (Nat.le_of_ble_eq_true rfl) (Nat.le_of_ble_eq_true rfl) g (Nat.zero_le _) (Nat.zero_le _) rfl rfl rfl (b_Frames_peek (by omega) h) (fun x1 M1 h => ?_)
    refine r_istore (kd55 rfl) L55 (by decide) rfl rfl ?_
    refine r_iload (kd55 rfl) rfl rfl ?_
    refine r_if_ne (kd55 rfl) rfl (fun c => ?_) (fun c => ?_)
    · have h := h.1 c
      refine r_aload_n (kd55 rfl) rfl rfl ?_
      obtain ⟨g, h⟩ := h
      refine r_get2 (kd55 rfl) (by decide) rfl g rfl ?_
      refine r_iload (kd55 rfl) rfl rfl ?_
      obtain ⟨g, h⟩ := h
      refine r_callVI (d' := d - 1) (by omega) (kd55 rfl) (by decide) rfl rfl rfl rfl (Nat.le_of_ble_eq_true rfl) rfl L26 (Nat.le_of_ble_eq_true rfl) (Nat.le_of_ble_eq_true rfl) g (Nat.zero_le _) (Nat.zero_le _) rfl rfl rfl (b_Heap_tagOf (by omega) h) (fun x1 M1 h => ?_)
      refine r_istore (kd55 rfl) L55 (by decide) rfl rfl ?_
      refine r_aload_n (kd55 rfl) rfl rfl ?_
      obtain ⟨g, h⟩ := h
      refine r_get2 (kd55 rfl) (by decide) rfl g rfl ?_
      obtain ⟨g, h⟩ := h
      refine r_get2 (kd55 rfl) (by decide) rfl g rfl ?_
      refine r_iload (kd55 rfl) rfl rfl ?_
      refine r_bipush (kd55 rfl) (y := 8) (by decide) rfl ?_
      refine r_imul (kd55 rfl) rfl ?_
      refine r_iload_n (kd55 rfl) rfl rfl ?_
      refine r_iadd (kd55 rfl) rfl ?_
      obtain ⟨g, h⟩ := h
      refine r_iaload (kd55 rfl) g rfl ?_
      refine r_istore_n (kd55 rfl) L55 (by decide) rfl rfl ?_
      exact (b_Machine_call_81 hd h).less (e_sc (List.mem_of_getElem? (i := 4) rfl) (e_sc (List.mem_of_getElem? (i := 5) rfl) (e_sc (List.mem_of_getElem? (i := 0) rfl) (e_sc (List.mem_of_getElem? (i := 1) rfl) e_sn))))
    · have h := h.2 c
      refine r_iconst (kd55 rfl) (y := 2) (by decide) rfl ?_
      exact r_ireturn (kd55 rfl) R55 h
/-- TierMill$Machine.giveBack(I)I -/
theorem kd59 {pc : Nat} {q : eI} (h : e_d59.lookup pc = some q) : e_dec 59 pc = some q := h
theorem L59 : (e_m 59).2.2.1 = 3 := rfl
theorem R59 : (e_m 59).2.2.2.1 = (some .int) := rfl
def w_Machine_giveBack_55 (M : eM) (Q : Int32 → eM → Prop) : Prop := Q (0 : Int32) M
theorem b_Machine_giveBack_55 {d : Nat} {M : eM} {Q : Int32 → eM → Prop} (hd : 2 ≤ d) (h : w_Machine_giveBack_55 M Q ) : e_E 59 d 0 0 55 [] [] M (e_QI Q) := by
  unfold w_Machine_giveBack_55 at h
  refine r_iconst (kd59 rfl) (y := 0) (by decide) rfl ?_
  exact r_ireturn (kd59 rfl) R59 h
def w_Machine_giveBack_84 (s0 : Int32) (s1 : Nat) (M : eM) (Q : Int32 → eM → Prop) : Prop := e_ob M s1 4 ∧ ∀ M6 : eM, M6 = e_si M s1 8 s0 → Q (0 : Int32) M6
theorem b_Machine_giveBack_84 {d : Nat} {s0 : Int32} {s1 : Nat} {M : eM} {Q : Int32 → eM → Prop} (hd : 2 ≤ d) (h : w_Machine_giveBack_84 s0 s1 M Q ) : e_E 59 d 0 0 84 [] [.int s0, .ref s1] M (e_QI Q) := by
  unfold w_Machine_giveBack_84 at h
  obtain ⟨g, h⟩ := h
  have h := h _ rfl
  refine r_put0 (kd59 rfl) (by decide) rfl g rfl ?_
  refine r_iconst (kd59 rfl) (y := 0) (by decide) rfl ?_
  exact r_ireturn (kd59 rfl) R59 h
def w_Machine_giveBack_17 (l0 : Nat) (l1 : Int32) (s0 : Int32) (M : eM) (Q : Int32 → eM → Prop) : Prop := e_ob M l0 4 ∧ e_ob M (gr M l0 0) 2 ∧ e_ob M (gr M l0 0) 2 ∧ ∀ M3 : eM, M3 = e_si M (gr M l0 0) 0 ((gi M (gr M l0 0) 0) - 1) → e_ob M3 l0 4 ∧ e_ob M3 (gr M3 l0 0) 2 ∧ ((gi M3 (gr M3 l0 0) 0) ≤ 0 → e_ob M3 l0 4 ∧ ∀ M4 : eM, M4 = e_si M3 l0 6 2 → e_ob M4 l0 4 ∧ e_ob M4 (gr M4 l0 14) 6 ∧ (e_ar M4 (gr M4 (gr M4 l0 14) 10) 23 0 ∨ e_ar M4 (gr M4 (gr M4 l0 14) 10) 24 0) ∧ e_ob M4 (gr M4 (gr M4 (gr M4 l0 14) 10) (0 : Int32).toNatClampNeg) 8 ∧ (¬ (gi M4 (gr M4 (gr M4 (gr M4 l0 14) 10) (0 : Int32).toNatClampNeg) 2) = 1 → w_Machine_giveBack_84 0 l0 M4 Q) ∧ ((gi M4 (gr M4 (gr M4 (gr M4 l0 14) 10) (0 : Int32).toNatClampNeg) 2) = 1 → w_Machine_giveBack_84 s0 l0 M4 Q)) ∧ (¬ (gi M3 (gr M3 l0 0) 0) ≤ 0 → (¬ l1 = 50 → w_Machine_giveBack_55 M3 Q) ∧ (l1 = 50 → e_ob M3 l0 4 ∧ e_ob M3 (gr M3 l0 0) 2 ∧ w_Frames_push (gr M3 l0 0) s0 M3 (fun (M5 : eM) => w_Machine_giveBack_55 M5 Q)))
theorem b_Machine_giveBack_17 {d : Nat} {l0 : Nat} {l1 : Int32} {s0 : Int32} {M : eM} {Q : Int32 → eM → Prop} (hd : 2 ≤ d) (h : w_Machine_giveBack_17 l0 l1 s0 M Q ) : e_E 59 d 0 0 17 [(0, .ref l0), (1, .int l1)] [.int s0] M (e_QI Q) := by
  unfold w_Machine_giveBack_17 at h
  refine r_istore_n (kd59 rfl) L59 (by decide) rfl rfl ?_
  refine r_aload_n (kd59 rfl) rfl rfl ?_
  obtain ⟨g, h⟩ := h
  refine r_get2 (kd59 rfl) (by decide) rfl g rfl ?_
  refine r_dup (kd59 rfl) rfl rfl ?_
  obtain ⟨g, h⟩ := h
  refine r_get0 (kd59 rfl) (by decide) rfl g rfl ?_
  refine r_iconst (kd59 rfl) (y := 1) (by decide) rfl ?_
  refine r_isub (kd59 rfl) rfl ?_
  obtain ⟨g, h⟩ := h
  have h := h _ rfl
  refine r_put0 (kd59 rfl) (by decide) rfl g rfl ?_
  refine r_aload_n (kd59 rfl) rfl rfl ?_
  obtain ⟨g, h⟩ := h
  refine r_get2 (kd59 rfl) (by decide) rfl g rfl ?_
  obtain ⟨g, h⟩ := h
  refine r_get0 (kd59 rfl) (by decide) rfl g rfl ?_
  refine r_if_le (kd59 rfl) rfl (fun c => ?_) (fun c => ?_)
  · have h := h.1 c
    refine r_aload_n (kd59 rfl) rfl rfl ?_
    refine r_iconst (kd59 rfl) (y := 2) (by decide) rfl ?_
    obtain ⟨g, h⟩ := h
    have h := h _ rfl
    refine r_put0 (kd59 rfl) (by decide) rfl g rfl ?_
    refine r_aload_n (kd59 rfl) rfl rfl ?_
    refine r_aload_n (kd59 rfl) rfl rfl ?_
    obtain ⟨g, h⟩ := h
    refine r_get2 (kd59 rfl) (by decide) rfl g rfl ?_
    obtain ⟨g, h⟩ := h
    refine r_get2 (kd59 rfl) (by decide) rfl g rfl ?_
    refine r_iconst (kd59 rfl) (y := 0) (by decide) rfl ?_
    obtain ⟨g, h⟩ := h
    refine r_aaload (kd59 rfl) g rfl ?_
    obtain ⟨g, h⟩ := h
    refine r_get0 (kd59 rfl) (by decide) rfl g rfl ?_
    refine r_iconst (kd59 rfl) (y := 1) (by decide) rfl ?_
    refine r_icmp_ne (kd59 rfl) rfl (fun c => ?_) (fun c => ?_)
    · have h := h.1 c
      refine r_iconst (kd59 rfl) (y := 0) (by decide) rfl ?_
      exact (b_Machine_giveBack_84 hd h).less e_sn
    · have h := h.2 c
      refine r_iload_n (kd59 rfl) rfl rfl ?_
      refine r_goto (kd59 rfl) ?_
      exact (b_Machine_giveBack_84 hd h).less e_sn
  · have h := h.2 c
    refine r_iload_n (kd59 rfl) rfl rfl ?_
    refine r_bipush (kd59 rfl) (y := 50) (by decide) rfl ?_
    refine r_icmp_ne (kd59 rfl) rfl (fun c => ?_) (fun c => ?_)
    · have h := h.1 c
      exact (b_Machine_giveBack_55 hd h).less e_sn
    · have h := h.2 c
      refine r_aload_n (kd59 rfl) rfl rfl ?_
      obtain ⟨g, h⟩ := h
      refine r_get2 (kd59 rfl) (by decide) rfl g rfl ?_
      refine r_iload_n (kd59 rfl) rfl rfl ?_
      obtain ⟨g, h⟩ := h
      refine r_callVV (d' := d - 1) (by omega) (kd59 rfl) (by decide) rfl rfl rfl rfl (Nat.le_of_ble_eq_true rfl) rfl L18 (Nat.le_of_ble_eq_true rfl) (Nat.le_of_ble_eq_true rfl) g (Nat.zero_le _) (Nat.zero_le _) rfl rfl rfl (b_Frames_push (by omega) h) (fun M1 h => ?_)
      exact (b_Machine_giveBack_55 hd h).less e_sn
def w_Machine_giveBack (l0 : Nat) (l1 : Int32) (M : eM) (Q : Int32 → eM → Prop) : Prop := (¬ l1 = 50 → w_Machine_giveBack_17 l0 l1 0 M Q) ∧ (l1 = 50 → e_ob M l0 4 ∧ e_ob M (gr M l0 0) 2 ∧ w_Frames_pop (gr M l0 0) M (fun (v2 : Int32) (M1 : eM) => w_Machine_giveBack_17 l0 l1 v2 M1 Q))
theorem b_Machine_giveBack {d : Nat} {l0 : Nat} {l1 : Int32} {M : eM} {Q : Int32 → eM → Prop} (hd : 2 ≤ d) (h : w_Machine_giveBack l0 l1 M Q) : e_CI 59 d 0 0 [.ref l0, .int l1] M Q := by
  unfold w_Machine_giveBack at h
  show e_E 59 d 0 0 0 [(0, .ref l0), (1, .int l1)] [] M (e_QI Q)
  refine r_iload_n (kd59 rfl) rfl rfl ?_
  refine r_bipush (kd59 rfl) (y := 50) (by decide) rfl ?_
  refine r_icmp_ne (kd59 rfl) rfl (fun c => ?_) (fun c => ?_)
  · have h := h.1 c
    refine r_iconst (kd59 rfl) (y := 0) (by decide) rfl ?_
    exact (b_Machine_giveBack_17 hd h).less (e_sc (List.mem_of_getElem? (i := 0) rfl) (e_sc (List.mem_of_getElem? (i := 1) rfl) e_sn))
  · have h := h.2 c
    refine r_aload_n (kd59 rfl) rfl rfl ?_
    obtain ⟨g, h⟩ := h
    refine r_get2 (kd59 rfl) (by decide) rfl g rfl ?_
    obtain ⟨g, h⟩ := h
    refine r_callVI (d' := d - 1) (by omega) (kd59 rfl) (by decide) rfl rfl rfl rfl (Nat.le_of_ble_eq_true rfl) rfl L17 (Nat.le_of_ble_eq_true rfl) (Nat.le_of_ble_eq_true rfl) g (Nat.zero_le _) (Nat.zero_le _) rfl rfl rfl (b_Frames_pop (by omega) h) (fun x1 M1 h => ?_)
    refine r_goto (kd59 rfl) ?_
    exact (b_Machine_giveBack_17 hd h).less (e_sc (List.mem_of_getElem? (i := 0) rfl) (e_sc (List.mem_of_getElem? (i := 1) rfl) e_sn))
/-- TierMill$Machine.nextInput()I -/
theorem kd61 {pc : Nat} {q : eI} (h : e_d61.lookup pc = some q) : e_dec 61 pc = some q := h
theorem L61 : (e_m 61).2.2.1 = 2 := rfl
theorem R61 : (e_m 61).2.2.2.1 = (some .int) := rfl
def w_Machine_nextInput (l0 : Nat) (M : eM) (Q : Int32 → eM → Prop) : Prop := e_ob M l0 4 ∧ (¬ (gi M l0 11) = 0 → e_ob M l0 4 ∧ e_ob M l0 4 ∧ e_ai M (gr M l0 12) (gi M l0 13) ∧ e_ob M l0 4 ∧ ¬ (100 : Int32) = 0 ∧ e_ob M l0 4 ∧ ∀ M1 : eM, M1 = e_si M l0 13 (((gi M l0 13) + 1) - ((gi M l0 13) + 1) / 100 * 100) → e_ob M1 l0 4 ∧ e_ob M1 l0 4 ∧ ∀ M2 : eM, M2 = e_si M1 l0 11 ((gi M1 l0 11) - 1) → Q (gi M (gr M l0 12) (gi M l0 13).toNatClampNeg) M2) ∧ ((gi M l0 11) = 0 → Q (0 : Int32) M)
theorem b_Machine_nextInput {d : Nat} {l0 : Nat} {M : eM} {Q : Int32 → eM → Prop} (hd : 0 ≤ d) (h : w_Machine_nextInput l0 M Q) : e_CI 61 d 0 0 [.ref l0] M Q := by
  unfold w_Machine_nextInput at h
  show e_E 61 d 0 0 0 [(0, .ref l0)] [] M (e_QI Q)
  refine r_aload_n (kd61 rfl) rfl rfl ?_
  obtain ⟨g, h⟩ := h
  refine r_get0 (kd61 rfl) (by decide) rfl g rfl ?_
  refine r_if_ne (kd61 rfl) rfl (fun c => ?_) (fun c => ?_)
  · have h := h.1 c
    refine r_aload_n (kd61 rfl) rfl rfl ?_
    obtain ⟨g, h⟩ := h
    refine r_get2 (kd61 rfl) (by decide) rfl g rfl ?_
    refine r_aload_n (kd61 rfl) rfl rfl ?_
    obtain ⟨g, h⟩ := h
    refine r_get0 (kd61 rfl) (by decide) rfl g rfl ?_
    obtain ⟨g, h⟩ := h
    refine r_iaload (kd61 rfl) g rfl ?_
    refine r_istore_n (kd61 rfl) L61 (by decide) rfl rfl ?_
    refine r_aload_n (kd61 rfl) rfl rfl ?_
    refine r_aload_n (kd61 rfl) rfl rfl ?_
    obtain ⟨g, h⟩ := h
    refine r_get0 (kd61 rfl) (by decide) rfl g rfl ?_
    refine r_iconst (kd61 rfl) (y := 1) (by decide) rfl ?_
    refine r_iadd (kd61 rfl) rfl ?_
    refine r_bipush (kd61 rfl) (y := 100) (by decide) rfl ?_
    obtain ⟨g, h⟩ := h
    refine r_irem (kd61 rfl) g rfl ?_
    obtain ⟨g, h⟩ := h
    have h := h _ rfl
    refine r_put0 (kd61 rfl) (by decide) rfl g rfl ?_
    refine r_aload_n (kd61 rfl) rfl rfl ?_
    refine r_dup (kd61 rfl) rfl rfl ?_
    obtain ⟨g, h⟩ := h
    refine r_get0 (kd61 rfl) (by decide) rfl g rfl ?_
    refine r_iconst (kd61 rfl) (y := 1) (by decide) rfl ?_
    refine r_isub (kd61 rfl) rfl ?_
    obtain ⟨g, h⟩ := h
    have h := h _ rfl
    refine r_put0 (kd61 rfl) (by decide) rfl g rfl ?_
    refine r_iload_n (kd61 rfl) rfl rfl ?_
    exact r_ireturn (kd61 rfl) R61 h
  · have h := h.2 c
    refine r_iconst (kd61 rfl) (y := 0) (by decide) rfl ?_
    exact r_ireturn (kd61 rfl) R61 h
/-- TierMill$Machine.passInt(I)I -/
theorem kd60 {pc : Nat} {q : eI} (h : e_d60.lookup pc = some q) : e_dec 60 pc = some q := h
theorem L60 : (e_m 60).2.2.1 = 3 := rfl
theorem R60 : (e_m 60).2.2.2.1 = (some .int) := rfl
def w_Machine_passInt_58 (l0 : Nat) (l1 : Int32) (M : eM) (Q : Int32 → eM → Prop) : Prop := e_ob M l0 4 ∧ e_ai M 2 l1 ∧ e_ob M (gr M l0 0) 2 ∧ w_Frames_goOn (gr M l0 0) (gi M 2 l1.toNatClampNeg) M (fun (M8 : eM) => Q (0 : Int32) M8)
theorem b_Machine_passInt_58 {d : Nat} {l0 : Nat} {l1 : Int32} {M : eM} {Q : Int32 → eM → Prop} (hd : 2 ≤ d) (h : w_Machine_passInt_58 l0 l1 M Q ) : e_E 60 d 0 0 58 [(0, .ref l0), (1, .int l1)] [] M (e_QI Q) := by
  unfold w_Machine_passInt_58 at h
  refine r_aload_n (kd60 rfl) rfl rfl ?_
  obtain ⟨g, h⟩ := h
  refine r_get2 (kd60 rfl) (by decide) rfl g rfl ?_
  refine r_getstatic (kd60 rfl) (by decide) rfl ?_
  refine r_iload_n (kd60 rfl) rfl rfl ?_
  obtain ⟨g, h⟩ := h
  refine r_iaload (kd60 rfl) g rfl ?_
  obtain ⟨g, h⟩ := h
  refine r_callVV (d' := d - 1) (by omega) (kd60 rfl) (by decide) rfl rfl rfl rfl (Nat.le_of_ble_eq_true rfl) rfl L19 (Nat.le_of_ble_eq_true rfl) (Nat.le_of_ble_eq_true rfl) g (Nat.zero_le _) (Nat.zero_le _) rfl rfl rfl (b_Frames_goOn (by omega) h) (fun M1 h => ?_)
  refine r_iconst (kd60 rfl) (y := 0) (by decide) rfl ?_
  exact r_ireturn (kd60 rfl) R60 h
def w_Machine_passInt_34 (l0 : Nat) (l1 : Int32) (M : eM) (Q : Int32 → eM → Prop) : Prop := e_ob M l0 4 ∧ e_ob M l0 4 ∧ ∀ M7 : eM, M7 = e_si M l0 5 ((gi M l0 5) + 1) → w_Machine_passInt_58 l0 l1 M7 Q
theorem b_Machine_passInt_34 {d : Nat} {l0 : Nat} {l1 : Int32} {M : eM} {Q : Int32 → eM → Prop} (hd : 2 ≤ d) (h : w_Machine_passInt_34 l0 l1 M Q ) : e_E 60 d 0 0 34 [(0, .ref l0), (1, .int l1)] [] M (e_QI Q) := by
  unfold w_Machine_passInt_34 at h
  refine r_aload_n (kd60 rfl) rfl rfl ?_
  refine r_dup (kd60 rfl) rfl rfl ?_
  obtain ⟨g, h⟩ := h
  refine r_get0 (kd60 rfl) (by decide) rfl g rfl ?_
  refine r_iconst (kd60 rfl) (y := 1) (by decide) rfl ?_
  refine r_iadd (kd60 rfl) rfl ?_
  obtain ⟨g, h⟩ := h
  have h := h _ rfl
  refine r_put0 (kd60 rfl) (by decide) rfl g rfl ?_
  refine r_goto (kd60 rfl) ?_
  exact (b_Machine_passInt_58 hd h).less (e_sc (List.mem_of_getElem? (i := 0) rfl) (e_sc (List.mem_of_getElem? (i := 1) rfl) e_sn))
def w_Machine_passInt (l0 : Nat) (l1 : Int32) (M : eM) (Q : Int32 → eM → Prop) : Prop := (¬ l1 = 51 → e_ob M l0 4 ∧ e_ob M l0 4 ∧ w_Machine_nextInput l0 M (fun (v2 : Int32) (M1 : eM) => e_ob M1 (gr M l0 0) 2 ∧ w_Frames_push (gr M l0 0) v2 M1 (fun (M3 : eM) => w_Machine_passInt_58 l0 l1 M3 Q))) ∧ (l1 = 51 → e_ob M l0 4 ∧ e_ob M (gr M l0 0) 2 ∧ w_Frames_pop (gr M l0 0) M (fun (v5 : Int32) (M4 : eM) => e_ob M4 l0 4 ∧ (500 ≤ (gi M4 l0 5) → w_Machine_passInt_34 l0 l1 M4 Q) ∧ (¬ 500 ≤ (gi M4 l0 5) → e_ob M4 l0 4 ∧ e_ob M4 l0 4 ∧ e_ar M4 (gr M4 l0 4) 20 (gi M4 l0 5) ∧ ∀ M6 : eM, M6 = e_si M4 (gr M4 l0 4) (gi M4 l0 5).toNatClampNeg v5 → w_Machine_passInt_34 l0 l1 M6 Q)))
theorem b_Machine_passInt {d : Nat} {l0 : Nat} {l1 : Int32} {M : eM} {Q : Int32 → eM → Prop} (hd : 2 ≤ d) (h : w_Machine_passInt l0 l1 M Q) : e_CI 60 d 0 0 [.ref l0, .int l1] M Q := by
  unfold w_Machine_passInt at h
  show e_E 60 d 0 0 0 [(0, .ref l0), (1, .int l1)] [] M (e_QI Q)
  refine r_iload_n (kd60 rfl) rfl rfl ?_
  refine r_bipush (kd60 rfl) (y := 51) (by decide) rfl ?_
  refine r_icmp_ne (kd60 rfl) rfl (fun c => ?_) (fun c => ?_)
  · have h := h.1 c
    refine r_aload_n (kd60 rfl) rfl rfl ?_
    obtain ⟨g, h⟩ := h
    refine r_get2 (kd60 rfl) (by decide) rfl g rfl ?_
    refine r_aload_n (kd60 rfl) rfl rfl ?_
    obtain ⟨g, h⟩ := h
    refine r_callVI (d' := d - 1) (by omega) (kd60 rfl) (by decide) rfl rfl rfl rfl (Nat.le_of_ble_eq_true rfl) rfl L61 (Nat.le_of_ble_eq_true rfl) (Nat.le_of_ble_eq_true rfl) g (Nat.zero_le _) (Nat.zero_le _) rfl rfl rfl (b_Machine_nextInput (by omega) h) (fun x1 M1 h => ?_)
    obtain ⟨g, h⟩ := h
    refine r_callVV (d' := d - 1) (by omega) (kd60 rfl) (by decide) rfl rfl rfl rfl (Nat.le_of_ble_eq_true rfl) rfl L18 (Nat.le_of_ble_eq_true rfl) (Nat.le_of_ble_eq_true rfl) g (Nat.zero_le _) (Nat.zero_le _) rfl rfl rfl (b_Frames_push (by omega) h) (fun M1 h => ?_)
    exact (b_Machine_passInt_58 hd h).less (e_sc (List.mem_of_getElem? (i := 0) rfl) (e_sc (List.mem_of_getElem? (i := 1) rfl) e_sn))
  · have h := h.2 c
    refine r_aload_n (kd60 rfl) rfl rfl ?_
    obtain ⟨g, h⟩ := h
    refine r_get2 (kd60 rfl) (by decide) rfl g rfl ?_
    obtain ⟨g, h⟩ := h
    refine r_callVI (d' := d - 1) (by omega) (kd60 rfl) (by decide) rfl rfl rfl rfl (Nat.le_of_ble_eq_true rfl) rfl L17 (Nat.le_of_ble_eq_true rfl) (Nat.le_of_ble_eq_true rfl) g (Nat.zero_le _) (Nat.zero_le _) rfl rfl rfl (b_Frames_pop (by omega) h) (fun x1 M1 h => ?_)
    refine r_istore_n (kd60 rfl) L60 (by decide) rfl rfl ?_
    refine r_aload_n (kd60 rfl) rfl rfl ?_
    obtain ⟨g, h⟩ := h
    refine r_get0 (kd60 rfl) (by decide) rfl g rfl ?_
    refine r_sipush (kd60 rfl) (y := 500) (by decide) rfl ?_
    refine r_icmp_ge (kd60 rfl) rfl (fun c => ?_) (fun c => ?_)
    · have h := h.1 c
      exact (b_Machine_passInt_34 hd h).less (e_sc (List.mem_of_getElem? (i := 1) rfl) (e_sc (List.mem_of_getElem? (i := 2) rfl) e_sn))
    · have h := h.2 c
      refine r_aload_n (kd60 rfl) rfl rfl ?_
      obtain ⟨g, h⟩ := h
      refine r_get2 (kd60 rfl) (by decide) rfl g rfl ?_
      refine r_aload_n (kd60 rfl) rfl rfl ?_
      obtain ⟨g, h⟩ := h
      refine r_get0 (kd60 rfl) (by decide) rfl g rfl ?_
      refine r_iload_n (kd60 rfl) rfl rfl ?_
      obtain ⟨g, h⟩ := h
      have h := h _ rfl
      refine r_iastore (kd60 rfl) g rfl ?_
      exact (b_Machine_passInt_34 hd h).less (e_sc (List.mem_of_getElem? (i := 1) rfl) (e_sc (List.mem_of_getElem? (i := 2) rfl) e_sn))
/-- TierMill$Machine.step(I)I -/
theorem kd41 {pc : Nat} {q : eI} (h : e_d41.lookup pc = some q) : e_dec 41 pc = some q := h
theorem L41 : (e_m 41).2.2.1 = 2 := rfl
theorem R41 : (e_m 41).2.2.2.1 = (some .int) := rfl
def w_Machine_step_42 (kc ks : Nat) (l0 : Nat) (l1 : Int32) (M : eM) (Q : Int32 → eM → Prop) : Prop := e_ob M l0 4 ∧ w_Machine_jump l0 l1 M (fun (v24 : Int32) (M23 : eM) => Q v24 M23)
theorem b_Machine_step_42 {d : Nat} {kc ks : Nat} {l0 : Nat} {l1 : Int32} {M : eM} {Q : Int32 → eM → Prop} (hd : 11 ≤ d) (h : w_Machine_step_42 kc ks l0 l1 M Q ) : e_E 41 d kc ks 42 [(0, .ref l0), (1, .int l1)] [] M (e_QI Q) := by
  unfold w_Machine_step_42 at h
  refine r_aload_n (kd41 rfl) rfl rfl ?_
  refine r_iload_n (kd41 rfl) rfl rfl ?_
  obtain ⟨g, h⟩ := h
  refine r_callVI (d' := d - 1) (by omega) (kd41 rfl) (by decide) rfl rfl rfl rfl (Nat.le_of_ble_eq_true rfl) rfl L47 (Nat.le_of_ble_eq_true rfl) (Nat.le_of_ble_eq_true rfl) g (Nat.zero_le _) (Nat.zero_le _) rfl rfl rfl (b_Machine_jump (by omega) h) (fun x1 M1 h => ?_)
  exact r_ireturn (kd41 rfl) R41 h
def w_Machine_step_60 (kc ks : Nat) (l0 : Nat) (l1 : Int32) (M : eM) (Q : Int32 → eM → Prop) : Prop := e_ob M l0 4 ∧ ∃ kc20 ks21 : Nat, kc20 ≤ kc ∧ ks21 ≤ ks ∧ w_Machine_make kc20 ks21 l0 l1 M (fun (v22 : Int32) (M19 : eM) => Q v22 M19)
theorem b_Machine_step_60 {d : Nat} {kc ks : Nat} {l0 : Nat} {l1 : Int32} {M : eM} {Q : Int32 → eM → Prop} (hd : 11 ≤ d) (h : w_Machine_step_60 kc ks l0 l1 M Q ) : e_E 41 d kc ks 60 [(0, .ref l0), (1, .int l1)] [] M (e_QI Q) := by
  unfold w_Machine_step_60 at h
  refine r_aload_n (kd41 rfl) rfl rfl ?_
  refine r_iload_n (kd41 rfl) rfl rfl ?_
  obtain ⟨g, h⟩ := h
  obtain ⟨mc, ms, q1, q2, h⟩ := h
  refine r_callVI (d' := d - 1) (by omega) (kd41 rfl) (by decide) rfl rfl rfl rfl (Nat.le_of_ble_eq_true rfl) rfl L51 (Nat.le_of_ble_eq_true rfl) (Nat.le_of_ble_eq_true rfl) g q1 q2 rfl rfl rfl (b_Machine_make (by omega) h) (fun x1 M1 h => ?_)
  exact r_ireturn (kd41 rfl) R41 h
def w_Machine_step_133 (kc ks : Nat) (s0 : Int32) (M : eM) (Q : Int32 → eM → Prop) : Prop := Q s0 M
theorem b_Machine_step_133 {d : Nat} {kc ks : Nat} {s0 : Int32} {M : eM} {Q : Int32 → eM → Prop} (hd : 11 ≤ d) (h : w_Machine_step_133 kc ks s0 M Q ) : e_E 41 d kc ks 133 [] [.int s0] M (e_QI Q) := by
  unfold w_Machine_step_133 at h
  exact r_ireturn (kd41 rfl) R41 h
def w_Machine_step_18 (kc ks : Nat) (l0 : Nat) (l1 : Int32) (M : eM) (Q : Int32 → eM → Prop) : Prop := (20 < l1 → (l1 ≤ 37 → w_Machine_step_42 kc ks l0 l1 M Q) ∧ (¬ l1 ≤ 37 → (¬ l1 = 53 → (l1 = 38 → w_Machine_step_60 kc ks l0 l1 M Q) ∧ (¬ l1 = 38 → (¬ l1 = 41 → (40 < l1 → (44 < l1 → (46 < l1 → (48 < l1 → (50 < l1 → e_ob M l0 4 ∧ w_Machine_passInt l0 l1 M (fun (v4 : Int32) (M3 : eM) => w_Machine_step_133 kc ks v4 M3 Q)) ∧ (¬ 50 < l1 → e_ob M l0 4 ∧ w_Machine_giveBack l0 l1 M (fun (v6 : Int32) (M5 : eM) => w_Machine_step_133 kc ks v6 M5 Q))) ∧ (¬ 48 < l1 → e_ob M l0 4 ∧ ∃ kc8 ks9 : Nat, kc8 ≤ kc ∧ ks9 ≤ ks ∧ w_Machine_call kc8 ks9 l0 l1 M (fun (v10 : Int32) (M7 : eM) => Q v10 M7))) ∧ (¬ 46 < l1 → e_ob M l0 4 ∧ w_Machine_testClass l0 l1 M (fun (v12 : Int32) (M11 : eM) => Q v12 M11))) ∧ (¬ 44 < l1 → e_ob M l0 4 ∧ w_Machine_useArray l0 l1 M (fun (v14 : Int32) (M13 : eM) => Q v14 M13))) ∧ (¬ 40 < l1 → e_ob M l0 4 ∧ w_Machine_useField l0 l1 M (fun (v16 : Int32) (M15 : eM) => Q v16 M15))) ∧ (l1 = 41 → w_Machine_step_60 kc ks l0 l1 M Q))) ∧ (l1 = 53 → w_Machine_step_42 kc ks l0 l1 M Q))) ∧ (¬ 20 < l1 → e_ob M l0 4 ∧ w_Machine_move l0 l1 M (fun (v18 : Int32) (M17 : eM) => Q v18 M17))
theorem b_Machine_step_18 {d : Nat} {kc ks : Nat} {l0 : Nat} {l1 : Int32} {M : eM} {Q : Int32 → eM → Prop} (hd : 11 ≤ d) (h : w_Machine_step_18 kc ks l0 l1 M Q ) : e_E 41 d kc ks 18 [(0, .ref l0), (1, .int l1)] [] M (e_QI Q) := by
  unfold w_Machine_step_18 at h
  refine r_iload_n (kd41 rfl) rfl rfl ?_
  refine r_bipush (kd41 rfl) (y := 20) (by decide) rfl ?_
  refine r_icmp_gt (kd41 rfl) rfl (fun c => ?_) (fun c => ?_)
  · have h := h.1 c
    refine r_iload_n (kd41 rfl) rfl rfl ?_
    refine r_bipush (kd41 rfl) (y := 37) (by decide) rfl ?_
    refine r_icmp_le (kd41 rfl) rfl (fun c => ?_) (fun c => ?_)
    · have h := h.1 c
      exact (b_Machine_step_42 hd h).less (e_sc (List.mem_of_getElem? (i := 0) rfl) (e_sc (List.mem_of_getElem? (i := 1) rfl) e_sn))
    · have h := h.2 c
      refine r_iload_n (kd41 rfl) rfl rfl ?_
      refine r_bipush (kd41 rfl) (y := 53) (by decide) rfl ?_
      refine r_icmp_ne (kd41 rfl) rfl (fun c => ?_) (fun c => ?_)
      · have h := h.1 c
        refine r_iload_n (kd41 rfl) rfl rfl ?_
        refine r_bipush (kd41 rfl) (y := 38) (by decide) rfl ?_
        refine r_icmp_eq (kd41 rfl) rfl (fun c => ?_) (fun c => ?_)
        · have h := h.1 c
          exact (b_Machine_step_60 hd h).less (e_sc (List.mem_of_getElem? (i := 0) rfl) (e_sc (List.mem_of_getElem? (i := 1) rfl) e_sn))
        · have h := h.2 c
          refine r_iload_n (kd41 rfl) rfl rfl ?_
          refine r_bipush (kd41 rfl) (y := 41) (by decide) rfl ?_
          refine r_icmp_ne (kd41 rfl) rfl (fun c => ?_) (fun c => ?_)
          · have h := h.1 c
            refine r_iload_n (kd41 rfl) rfl rfl ?_
            refine r_bipush (kd41 rfl) (y := 40) (by decide) rfl ?_
            refine r_icmp_gt (kd41 rfl) rfl (fun c => ?_) (fun c => ?_)
            · have h := h.1 c
              refine r_iload_n (kd41 rfl) rfl rfl ?_
              refine r_bipush (kd41 rfl) (y := 44) (by decide) rfl ?_
              refine r_icmp_gt (kd41 rfl) rfl (fun c => ?_) (fun c => ?_)
              · have h := h.1 c
                refine r_iload_n (kd41 rfl) rfl rfl ?_
                refine r_bipush (kd41 rfl) (y := 46) (by decide) rfl ?_
                refine r_icmp_gt (kd41 rfl) rfl (fun c => ?_) (fun c => ?_)
                · have h := h.1 c
                  refine r_iload_n (kd41 rfl) rfl rfl ?_
                  refine r_bipush (kd41 rfl) (y := 48) (by decide) rfl ?_
                  refine r_icmp_gt (kd41 rfl) rfl (fun c => ?_) (fun c => ?_)
                  · have h := h.1 c
                    refine r_iload_n (kd41 rfl) rfl rfl ?_
                    refine r_bipush (kd41 rfl) (y := 50) (by decide) rfl ?_
                    refine r_icmp_gt (kd41 rfl) rfl (fun c => ?_) (fun c => ?_)
                    · have h := h.1 c
                      refine r_aload_n (kd41 rfl) rfl rfl ?_
                      refine r_iload_n (kd41 rfl) rfl rfl ?_
                      obtain ⟨g, h⟩ := h
                      refine r_callVI (d' := d - 1) (by omega) (kd41 rfl) (by decide) rfl rfl rfl rfl (Nat.le_of_ble_eq_true rfl) rfl L60 (Nat.le_of_ble_eq_true rfl) (Nat.le_of_ble_eq_true rfl) g (Nat.zero_le _) (Nat.zero_le _) rfl rfl rfl (b_Machine_passInt (by omega) h) (fun x1 M1 h => ?_)
                      exact (b_Machine_step_133 hd h).less e_sn
                    · have h := h.2 c
                      refine r_aload_n (kd41 rfl) rfl rfl ?_
                      refine r_iload_n (kd41 rfl) rfl rfl ?_
                      obtain ⟨g, h⟩ := h
                      refine r_callVI (d' := d - 1) (by omega) (kd41 rfl) (by decide) rfl rfl rfl rfl (Nat.le_of_ble_eq_true rfl) rfl L59 (Nat.le_of_ble_eq_true rfl) (Nat.le_of_ble_eq_true rfl) g (Nat.zero_le _) (Nat.zero_le _) rfl rfl rfl (b_Machine_giveBack (by omega) h) (fun x1 M1 h => ?_)
                      refine r_goto (kd41 rfl) ?_
                      exact (b_Machine_step_133 hd h).less e_sn
                  · have h := h.2 c
                    refine r_aload_n (kd41 rfl) rfl rfl ?_
                    refine r_iload_n (kd41 rfl) rfl rfl ?_
                    obtain ⟨g, h⟩ := h
                    obtain ⟨mc, ms, q1, q2, h⟩ := h
                    refine r_callVI (d' := d - 1) (by omega) (kd41 rfl) (by decide) rfl rfl rfl rfl (Nat.le_of_ble_eq_true rfl) rfl L55 (Nat.le_of_ble_eq_true rfl) (Nat.le_of_ble_eq_true rfl) g q1 q2 rfl rfl rfl (b_Machine_call (by omega) h) (fun x1 M1 h => ?_)
                    exact r_ireturn (kd41 rfl) R41 h
                · have h := h.2 c
                  refine r_aload_n (kd41 rfl) rfl rfl ?_
                  refine r_iload_n (kd41 rfl) rfl rfl ?_
                  obtain ⟨g, h⟩ := h
                  refine r_callVI (d' := d - 1) (by omega) (kd41 rfl) (by decide) rfl rfl rfl rfl (Nat.le_of_ble_eq_true rfl) rfl L54 (Nat.le_of_ble_eq_true rfl) (Nat.le_of_ble_eq_true rfl) g (Nat.zero_le _) (Nat.zero_le _) rfl rfl rfl (b_Machine_testClass (by omega) h) (fun x1 M1 h => ?_)
                  exact r_ireturn (kd41 rfl) R41 h
              · have h := h.2 c
                refine r_aload_n (kd41 rfl) rfl rfl ?_
                refine r_iload_n (kd41 rfl) rfl rfl ?_
                obtain ⟨g, h⟩ := h
                refine r_callVI (d' := d - 1) (by omega) (kd41 rfl) (by decide) rfl rfl rfl rfl (Nat.le_of_ble_eq_true rfl) rfl L53 (Nat.le_of_ble_eq_true rfl) (Nat.le_of_ble_eq_true rfl) g (Nat.zero_le _) (Nat.zero_le _) rfl rfl rfl (b_Machine_useArray (by omega) h) (fun x1 M1 h => ?_)
                exact r_ireturn (kd41 rfl) R41 h
            · have h := h.2 c
              refine r_aload_n (kd41 rfl) rfl rfl ?_
              refine r_iload_n (kd41 rfl) rfl rfl ?_
              obtain ⟨g, h⟩ := h
              refine r_callVI (d' := d - 1) (by omega) (kd41 rfl) (by decide) rfl rfl rfl rfl (Nat.le_of_ble_eq_true rfl) rfl L52 (Nat.le_of_ble_eq_true rfl) (Nat.le_of_ble_eq_true rfl) g (Nat.zero_le _) (Nat.zero_le _) rfl rfl rfl (b_Machine_useField (by omega) h) (fun x1 M1 h => ?_)
              exact r_ireturn (kd41 rfl) R41 h
          · have h := h.2 c
            exact (b_Machine_step_60 hd h).less (e_sc (List.mem_of_getElem? (i := 0) rfl) (e_sc (List.mem_of_getElem? (i := 1) rfl) e_sn))
      · have h := h.2 c
        exact (b_Machine_step_42 hd h).less (e_sc (List.mem_of_getElem? (i := 0) rfl) (e_sc (List.mem_of_getElem? (i := 1) rfl) e_sn))
  · have h := h.2 c
    refine r_aload_n (kd41 rfl) rfl rfl ?_
    refine r_iload_n (kd41 rfl) rfl rfl ?_
    obtain ⟨g, h⟩ := h
    refine r_callVI (d' := d - 1) (by omega) (kd41 rfl) (by decide) rfl rfl rfl rfl (Nat.le_of_ble_eq_true rfl) rfl L42 (Nat.le_of_ble_eq_true rfl) (Nat.le_of_ble_eq_true rfl) g (Nat.zero_le _) (Nat.zero_le _) rfl rfl rfl (b_Machine_move (by omega) h) (fun x1 M1 h => ?_)
    exact r_ireturn (kd41 rfl) R41 h
def w_Machine_step (kc ks : Nat) (l0 : Nat) (l1 : Int32) (M : eM) (Q : Int32 → eM → Prop) : Prop := (l1 < 8 → w_Machine_step_18 kc ks l0 l1 M Q) ∧ (¬ l1 < 8 → (19 < l1 → w_Machine_step_18 kc ks l0 l1 M Q) ∧ (¬ 19 < l1 → e_ob M l0 4 ∧ w_Machine_calculate l0 l1 M (fun (v2 : Int32) (M1 : eM) => Q v2 M1)))
theorem b_Machine_step {d : Nat} {kc ks : Nat} {l0 : Nat} {l1 : Int32} {M : eM} {Q : Int32 → eM → Prop} (hd : 11 ≤ d) (h : w_Machine_step kc ks l0 l1 M Q) : e_CI 41 d kc ks [.ref l0, .int l1] M Q := by
  unfold w_Machine_step at h
  show e_E 41 d kc ks 0 [(0, .ref l0), (1, .int l1)] [] M (e_QI Q)
  refine r_iload_n (kd41 rfl) rfl rfl ?_
  refine r_bipush (kd41 rfl) (y := 8) (by decide) rfl ?_
  refine r_icmp_lt (kd41 rfl) rfl (fun c => ?_) (fun c => ?_)
  · have h := h.1 c
    exact (b_Machine_step_18 hd h).less (e_sc (List.mem_of_getElem? (i := 0) rfl) (e_sc (List.mem_of_getElem? (i := 1) rfl) e_sn))
  · have h := h.2 c
    refine r_iload_n (kd41 rfl) rfl rfl ?_
    refine r_bipush (kd41 rfl) (y := 19) (by decide) rfl ?_
    refine r_icmp_gt (kd41 rfl) rfl (fun c => ?_) (fun c => ?_)
    · have h := h.1 c
      exact (b_Machine_step_18 hd h).less (e_sc (List.mem_of_getElem? (i := 0) rfl) (e_sc (List.mem_of_getElem? (i := 1) rfl) e_sn))
    · have h := h.2 c
      refine r_aload_n (kd41 rfl) rfl rfl ?_
      refine r_iload_n (kd41 rfl) rfl rfl ?_
      obtain ⟨g, h⟩ := h
      refine r_callVI (d' := d - 1) (by omega) (kd41 rfl) (by decide) rfl rfl rfl rfl (Nat.le_of_ble_eq_true rfl) rfl L45 (Nat.le_of_ble_eq_true rfl) (Nat.le_of_ble_eq_true rfl) g (Nat.zero_le _) (Nat.zero_le _) rfl rfl rfl (b_Machine_calculate (by omega) h) (fun x1 M1 h => ?_)
      exact r_ireturn (kd41 rfl) R41 h
/-- TierMill$Machine.advance(I)I -/
theorem kd40 {pc : Nat} {q : eI} (h : e_d40.lookup pc = some q) : e_dec 40 pc = some q := h
theorem L40 : (e_m 40).2.2.1 = 4 := rfl
theorem R40 : (e_m 40).2.2.2.1 = (some .int) := rfl
def w_Machine_advance_119 (kc ks : Nat) (l2 : Int32) (M : eM) (Q : Int32 → eM → Prop) : Prop := Q l2 M
theorem b_Machine_advance_119 {d : Nat} {kc ks : Nat} {l2 : Int32} {M : eM} {Q : Int32 → eM → Prop} (hd : 12 ≤ d) (h : w_Machine_advance_119 kc ks l2 M Q ) : e_E 40 d kc ks 119 [(2, .int l2)] [] M (e_QI Q) := by
  unfold w_Machine_advance_119 at h
  refine r_iload_n (kd40 rfl) rfl rfl ?_
  exact r_ireturn (kd40 rfl) R40 h
def w_Machine_advance_2 : Nat → Nat → Nat → Nat → Int32 → Int32 → eM → (Int32 → eM → Prop) → Prop
  | 0, _, _, _, _, _, _, _ => False
  | n + 1, kc, ks, l0, l1, l2, M, Q => (l1 ≤ l2 → w_Machine_advance_119 kc ks l2 M Q) ∧ (¬ l1 ≤ l2 → e_ob M l0 4 ∧ (¬ (gi M l0 6) = 1 → w_Machine_advance_119 kc ks l2 M Q) ∧ ((gi M l0 6) = 1 → e_ob M l0 4 ∧ e_ob M (gr M l0 0) 2 ∧ e_ob M l0 4 ∧ e_ob M (gr M l0 14) 6 ∧ e_ob M l0 4 ∧ e_ob M (gr M l0 0) 2 ∧ e_ai M (gr M (gr M l0 0) 1) ((gi M (gr M l0 0) 0) - 1) ∧ (e_ar M (gr M (gr M l0 14) 10) 23 (gi M (gr M (gr M l0 0) 1) ((gi M (gr M l0 0) 0) - 1).toNatClampNeg) ∨ e_ar M (gr M (gr M l0 14) 10) 24 (gi M (gr M (gr M l0 0) 1) ((gi M (gr M l0 0) 0) - 1).toNatClampNeg)) ∧ e_ob M (gr M (gr M (gr M l0 14) 10) (gi M (gr M (gr M l0 0) 1) ((gi M (gr M l0 0) 0) - 1).toNatClampNeg).toNatClampNeg) 8 ∧ e_ob M l0 4 ∧ e_ob M (gr M l0 0) 2 ∧ e_ai M (gr M (gr M l0 0) 2) ((gi M (gr M l0 0) 0) - 1) ∧ e_ob M l0 4 ∧ ∀ M2 : eM, M2 = e_si M l0 15 ((gi M (gr M (gr M (gr M l0 14) 10) (gi M (gr M (gr M l0 0) 1) ((gi M (gr M l0 0) 0) - 1).toNatClampNeg).toNatClampNeg) 5) + (gi M (gr M (gr M l0 0) 2) ((gi M (gr M l0 0) 0) - 1).toNatClampNeg)) → e_ob M2 l0 4 ∧ e_ob M2 (gr M2 l0 14) 6 ∧ e_ob M2 l0 4 ∧ e_ai M2 (gr M2 (gr M2 l0 14) 0) (gi M2 l0 15) ∧ e_ob M2 l0 4 ∧ ∃ kc4 ks5 : Nat, kc4 ≤ kc ∧ ks5 ≤ ks ∧ w_Machine_step kc4 ks5 l0 (gi M2 (gr M2 (gr M2 l0 14) 0) (gi M2 l0 15).toNatClampNeg) M2 (fun (v6 : Int32) (M3 : eM) => e_ob M3 l0 4 ∧ ∀ M7 : eM, M7 = e_si M3 l0 7 v6 → e_ob M7 l0 4 ∧ ((gi M7 l0 7) = 0 → e_ob M7 l0 4 ∧ e_ob M7 l0 4 ∧ ∀ M8 : eM, M8 = e_si M7 l0 9 ((gi M7 l0 9) + 1) → e_ob M8 l0 4 ∧ e_ob M8 l0 4 ∧ ∀ M9 : eM, M9 = e_si M8 l0 10 ((gi M8 l0 10) + 1) → (fun kc ks l0 l1 l2 M => w_Machine_advance_2 n kc ks l0 l1 l2 M Q ) (kc - kc4) (ks - ks5) l0 l1 (l2 + 1) M9) ∧ (¬ (gi M7 l0 7) = 0 → e_ob M7 l0 4 ∧ ∀ M10 : eM, M10 = e_si M7 l0 6 3 → Q l2 M10))))
theorem b_Machine_advance_2 {d : Nat} {Q : Int32 → eM → Prop} (hd : 12 ≤ d) (n : Nat) : ∀ (kc ks : Nat) (l0 : Nat) (l1 : Int32) (l2 : Int32) (M : eM), w_Machine_advance_2 n kc ks l0 l1 l2 M Q → e_E 40 d kc ks 2 [(0, .ref l0), (1, .int l1), (2, .int l2)] [] M (e_QI Q) := by
  induction n with
  | zero => intro kc ks l0 l1 l2 M h; exact False.elim h
  | succ n ih =>
    intro kc ks l0 l1 l2 M h
    have hk2 := ih
    refine r_iload_n (kd40 rfl) rfl rfl ?_
    refine r_iload_n (kd40 rfl) rfl rfl ?_
    refine r_icmp_ge (kd40 rfl) rfl (fun c => ?_) (fun c => ?_)
    · have h := h.1 c
      exact (b_Machine_advance_119 hd h).less (e_sc (List.mem_of_getElem? (i := 2) rfl) e_sn)
    · have h := h.2 c
      refine r_aload_n (kd40 rfl) rfl rfl ?_
      obtain ⟨g, h⟩ := h
      refine r_get0 (kd40 rfl) (by decide) rfl g rfl ?_
      refine r_iconst (kd40 rfl) (y := 1) (by decide) rfl ?_
      refine r_icmp_ne (kd40 rfl) rfl (fun c => ?_) (fun c => ?_)
      · have h := h.1 c
        exact (b_Machine_advance_119 hd h).less (e_sc (List.mem_of_getElem? (i := 2) rfl) e_sn)
      · have h := h.2 c
        refine r_aload_n (kd40 rfl) rfl rfl ?_
        obtain ⟨g, h⟩ := h
        refine r_get2 (kd40 rfl) (by decide) rfl g rfl ?_
        obtain ⟨g, h⟩ := h
        refine r_get0 (kd40 rfl) (by decide) rfl g rfl ?_
        refine r_iconst (kd40 rfl) (y := 1) (by decide) rfl ?_
        refine r_isub (kd40 rfl) rfl ?_
        refine r_istore_n (kd40 rfl) L40 (by decide) rfl rfl ?_
        refine r_aload_n (kd40 rfl) rfl rfl ?_
        refine r_aload_n (kd40 rfl) rfl rfl ?_
        obtain ⟨g, h⟩ := h
        refine r_get2 (kd40 rfl) (by decide) rfl g rfl ?_
        obtain ⟨g, h⟩ := h
        refine r_get2 (kd40 rfl) (by decide) rfl g rfl ?_
        refine r_aload_n (kd40 rfl) rfl rfl ?_
        obtain ⟨g, h⟩ := h
        refine r_get2 (kd40 rfl) (by decide) rfl g rfl ?_
        obtain ⟨g, h⟩ := h
        refine r_get2 (kd40 rfl) (by decide) rfl g rfl ?_
        refine r_iload_n (kd40 rfl) rfl rfl ?_
        obtain ⟨g, h⟩ := h
        refine r_iaload (kd40 rfl) g rfl ?_
        obtain ⟨g, h⟩ := h
        refine r_aaload (kd40 rfl) g rfl ?_
        obtain ⟨g, h⟩ := h
        refine r_get0 (kd40 rfl) (by decide) rfl g rfl ?_
        refine r_aload_n (kd40 rfl) rfl rfl ?_
        obtain ⟨g, h⟩ := h
        refine r_get2 (kd40 rfl) (by decide) rfl g rfl ?_
        obtain ⟨g, h⟩ := h
        refine r_get2 (kd40 rfl) (by decide) rfl g rfl ?_
        refine r_iload_n (kd40 rfl) rfl rfl ?_
        obtain ⟨g, h⟩ := h
        refine r_iaload (kd40 rfl) g rfl ?_
        refine r_iadd (kd40 rfl) rfl ?_
        obtain ⟨g, h⟩ := h
        have h := h _ rfl
        refine r_put0 (kd40 rfl) (by decide) rfl g rfl ?_
        refine r_aload_n (kd40 rfl) rfl rfl ?_
        refine r_aload_n (kd40 rfl) rfl rfl ?_
        refine r_aload_n (kd40 rfl) rfl rfl ?_
        obtain ⟨g, h⟩ := h
        refine r_get2 (kd40 rfl) (by decide) rfl g rfl ?_
        obtain ⟨g, h⟩ := h
        refine r_get2 (kd40 rfl) (by decide) rfl g rfl ?_
        refine r_aload_n (kd40 rfl) rfl rfl ?_
        obtain ⟨g, h⟩ := h
        refine r_get0 (kd40 rfl) (by decide) rfl g rfl ?_
        obtain ⟨g, h⟩ := h
        refine r_iaload (kd40 rfl) g rfl ?_
        obtain ⟨g, h⟩ := h
        obtain ⟨mc, ms, q1, q2, h⟩ := h
        refine r_callVI (d' := d - 1) (by omega) (kd40 rfl) (by decide) rfl rfl rfl rfl (Nat.le_of_ble_eq_true rfl) rfl L41 (Nat.le_of_ble_eq_true rfl) (Nat.le_of_ble_eq_true rfl) g q1 q2 rfl rfl rfl (b_Machine_step (by omega) h) (fun x1 M1 h => ?_)
        obtain ⟨g, h⟩ := h
        have h := h _ rfl
        refine r_put0 (kd40 rfl) (by decide) rfl g rfl ?_
        refine r_aload_n (kd40 rfl) rfl rfl ?_
        obtain ⟨g, h⟩ := h
        refine r_get0 (kd40 rfl) (by decide) rfl g rfl ?_
        refine r_if_eq (kd40 rfl) rfl (fun c => ?_) (fun c => ?_)
        · have h := h.1 c
          refine r_iinc (kd40 rfl) rfl (y := 1) (by decide) L40 (by decide) rfl rfl ?_
          refine r_aload_n (kd40 rfl) rfl rfl ?_
          refine r_dup (kd40 rfl) rfl rfl ?_
          obtain ⟨g, h⟩ := h
          refine r_get0 (kd40 rfl) (by decide) rfl g rfl ?_
          refine r_iconst (kd40 rfl) (y := 1) (by decide) rfl ?_
          refine r_iadd (kd40 rfl) rfl ?_
          obtain ⟨g, h⟩ := h
          have h := h _ rfl
          refine r_put0 (kd40 rfl) (by decide) rfl g rfl ?_
          refine r_aload_n (kd40 rfl) rfl rfl ?_
          refine r_dup (kd40 rfl) rfl rfl ?_
          obtain ⟨g, h⟩ := h
          refine r_get0 (kd40 rfl) (by decide) rfl g rfl ?_
          refine r_iconst (kd40 rfl) (y := 1) (by decide) rfl ?_
          refine r_iadd (kd40 rfl) rfl ?_
          obtain ⟨g, h⟩ := h
          have h := h _ rfl
          refine r_put0 (kd40 rfl) (by decide) rfl g rfl ?_
          refine r_goto (kd40 rfl) ?_
          exact (hk2 _ _ _ _ _ _ h).less (e_sc (List.mem_of_getElem? (i := 2) rfl) (e_sc (List.mem_of_getElem? (i := 3) rfl) (e_sc (List.mem_of_getElem? (i := 0) rfl) e_sn)))
        · have h := h.2 c
          refine r_aload_n (kd40 rfl) rfl rfl ?_
          refine r_iconst (kd40 rfl) (y := 3) (by decide) rfl ?_
          obtain ⟨g, h⟩ := h
          have h := h _ rfl
          refine r_put0 (kd40 rfl) (by decide) rfl g rfl ?_
          refine r_iload_n (kd40 rfl) rfl rfl ?_
          exact r_ireturn (kd40 rfl) R40 h
def w_Machine_advance (kc ks : Nat) (l0 : Nat) (l1 : Int32) (M : eM) (Q : Int32 → eM → Prop) : Prop := ∃ n1 : Nat, w_Machine_advance_2 n1 kc ks l0 l1 0 M Q
theorem b_Machine_advance {d : Nat} {kc ks : Nat} {l0 : Nat} {l1 : Int32} {M : eM} {Q : Int32 → eM → Prop} (hd : 12 ≤ d) (h : w_Machine_advance kc ks l0 l1 M Q) : e_CI 40 d kc ks [.ref l0, .int l1] M Q := by
  unfold w_Machine_advance at h
  show e_E 40 d kc ks 0 [(0, .ref l0), (1, .int l1)] [] M (e_QI Q)
  refine r_iconst (kd40 rfl) (y := 0) (by decide) rfl ?_
  refine r_istore_n (kd40 rfl) L40 (by decide) rfl rfl ?_
  obtain ⟨n, h⟩ := h
  exact (b_Machine_advance_2 hd n _ _ _ _ _ _ h).less (e_sc (List.mem_of_getElem? (i := 1) rfl) (e_sc (List.mem_of_getElem? (i := 2) rfl) (e_sc (List.mem_of_getElem? (i := 0) rfl) e_sn)))
/-- TierMill$Shape.<init>()V -/
theorem kd81 {pc : Nat} {q : eI} (h : e_d81.lookup pc = some q) : e_dec 81 pc = some q := h
theorem L81 : (e_m 81).2.2.1 = 1 := rfl
theorem R81 : (e_m 81).2.2.2.1 = none := rfl
def w_Shape_init (kc ks : Nat) (l0 : Nat) (M : eM) (Q : eM → Prop) : Prop := e_c0 ≤ l0 ∧ ¬ (4 : Int32) < 0 ∧ (4 : Int32).toNatClampNeg ≤ 400000 ∧ 1 ≤ kc ∧ (4 : Int32).toNatClampNeg ≤ ks ∧ ∀ M1 : eM, M1 = e_new M 20 (4 : Int32).toNatClampNeg → e_ob M1 l0 8 ∧ ∀ M2 : eM, M2 = e_sr M1 l0 0 M.1 → Q M2
theorem b_Shape_init {d : Nat} {kc ks : Nat} {l0 : Nat} {M : eM} {Q : eM → Prop} (hd : 0 ≤ d) (h : w_Shape_init kc ks l0 M Q) : e_CV 81 d kc ks [.ref l0] M Q := by
  unfold w_Shape_init at h
  show e_E 81 d kc ks 0 [(0, .ref l0)] [] M (e_QV Q)
  refine r_aload_n (kd81 rfl) rfl rfl ?_
  obtain ⟨g, h⟩ := h
  refine r_objInit (kd81 rfl) g (Nat.le_of_ble_eq_true rfl) rfl ?_
  refine r_aload_n (kd81 rfl) rfl rfl ?_
  refine r_iconst (kd81 rfl) (y := 4) (by decide) rfl ?_
  obtain ⟨g0, g3, g1, g2, h⟩ := h
  have h := h _ rfl
  refine r_newarray (kd81 rfl) (by decide) g0 g3 g1 g2 rfl ?_
  obtain ⟨g, h⟩ := h
  have h := h _ rfl
  refine r_put2 (kd81 rfl) (by decide) rfl g rfl ?_
  exact r_return (kd81 rfl) R81 h
/-- TierMill$Program.<init>()V -/
theorem kd65 {pc : Nat} {q : eI} (h : e_d65.lookup pc = some q) : e_dec 65 pc = some q := h
theorem L65 : (e_m 65).2.2.1 = 2 := rfl
theorem R65 : (e_m 65).2.2.2.1 = none := rfl
def w_Program_init_92 : Nat → Nat → Nat → Nat → Int32 → eM → (eM → Prop) → Prop
  | 0, _, _, _, _, _, _ => False
  | n + 1, kc, ks, l0, l1, M, Q => (16 ≤ l1 → ¬ (64 : Int32) < 0 ∧ (64 : Int32).toNatClampNeg ≤ 400000 ∧ 1 ≤ kc ∧ (64 : Int32).toNatClampNeg ≤ ks ∧ ∀ M22 : eM, M22 = e_new M 20 (64 : Int32).toNatClampNeg → e_ob M22 l0 6 ∧ ∀ M23 : eM, M23 = e_sr M22 l0 11 M.1 → ¬ (1500 : Int32) < 0 ∧ (1500 : Int32).toNatClampNeg ≤ 400000 ∧ 1 ≤ (kc - 1) ∧ (1500 : Int32).toNatClampNeg ≤ (ks - (64 : Int32).toNatClampNeg) ∧ ∀ M24 : eM, M24 = e_new M23 20 (1500 : Int32).toNatClampNeg → e_ob M24 l0 6 ∧ ∀ M25 : eM, M25 = e_sr M24 l0 12 M23.1 → ¬ (1500 : Int32) < 0 ∧ (1500 : Int32).toNatClampNeg ≤ 400000 ∧ 1 ≤ (kc - 1 - 1) ∧ (1500 : Int32).toNatClampNeg ≤ (ks - (64 : Int32).toNatClampNeg - (1500 : Int32).toNatClampNeg) ∧ ∀ M26 : eM, M26 = e_new M25 20 (1500 : Int32).toNatClampNeg → e_ob M26 l0 6 ∧ ∀ M27 : eM, M27 = e_sr M26 l0 13 M25.1 → ¬ (1500 : Int32) < 0 ∧ (1500 : Int32).toNatClampNeg ≤ 400000 ∧ 1 ≤ (kc - 1 - 1 - 1) ∧ (1500 : Int32).toNatClampNeg ≤ (ks - (64 : Int32).toNatClampNeg - (1500 : Int32).toNatClampNeg - (1500 : Int32).toNatClampNeg) ∧ ∀ M28 : eM, M28 = e_new M27 20 (1500 : Int32).toNatClampNeg → e_ob M28 l0 6 ∧ ∀ M29 : eM, M29 = e_sr M28 l0 15 M27.1 → ¬ (1500 : Int32) < 0 ∧ (1500 : Int32).toNatClampNeg ≤ 400000 ∧ 1 ≤ (kc - 1 - 1 - 1 - 1) ∧ (1500 : Int32).toNatClampNeg ≤ (ks - (64 : Int32).toNatClampNeg - (1500 : Int32).toNatClampNeg - (1500 : Int32).toNatClampNeg - (1500 : Int32).toNatClampNeg) ∧ ∀ M30 : eM, M30 = e_new M29 21 (1500 : Int32).toNatClampNeg → e_ob M30 l0 6 ∧ ∀ M31 : eM, M31 = e_sr M30 l0 16 M29.1 → ¬ (1500 : Int32) < 0 ∧ (1500 : Int32).toNatClampNeg ≤ 400000 ∧ 1 ≤ (kc - 1 - 1 - 1 - 1 - 1) ∧ (1500 : Int32).toNatClampNeg ≤ (ks - (64 : Int32).toNatClampNeg - (1500 : Int32).toNatClampNeg - (1500 : Int32).toNatClampNeg - (1500 : Int32).toNatClampNeg - (1500 : Int32).toNatClampNeg) ∧ ∀ M32 : eM, M32 = e_new M31 21 (1500 : Int32).toNatClampNeg → e_ob M32 l0 6 ∧ ∀ M33 : eM, M33 = e_sr M32 l0 17 M31.1 → Q M33) ∧ (¬ 16 ≤ l1 → e_ob M l0 6 ∧ 1 ≤ kc ∧ 7 ≤ ks ∧ ∀ M34 : eM, M34 = e_new M 8 0 → e_c0 ≤ M.1 ∧ ∃ kc36 ks37 : Nat, kc36 ≤ (kc - 1) ∧ ks37 ≤ (ks - 7) ∧ w_Shape_init kc36 ks37 M.1 M34 (fun (M35 : eM) => ((e_ar M35 (gr M l0 10) 23 l1 ∧ e_ob M35 M.1 5) ∨ (e_ar M35 (gr M l0 10) 24 l1 ∧ e_ob M35 M.1 8)) ∧ ∀ M38 : eM, M38 = e_sr M35 (gr M l0 10) l1.toNatClampNeg M.1 → (fun kc ks l0 l1 M => w_Program_init_92 n kc ks l0 l1 M Q ) (kc - 1 - kc36) (ks - 7 - ks37) l0 (l1 + 1) M38))
theorem b_Program_init_92 {d : Nat} {Q : eM → Prop} (hd : 1 ≤ d) (n : Nat) : ∀ (kc ks : Nat) (l0 : Nat) (l1 : Int32) (M : eM), w_Program_init_92 n kc ks l0 l1 M Q → e_E 65 d kc ks 92 [(0, .ref l0), (1, .int l1)] [] M (e_QV Q) := by
  induction n with
  | zero => intro kc ks l0 l1 M h; exact False.elim h
  | succ n ih =>
    intro kc ks l0 l1 M h
    have hk92 := ih
    refine r_iload_n (kd65 rfl) rfl rfl ?_
    refine r_bipush (kd65 rfl) (y := 16) (by decide) rfl ?_
    refine r_icmp_ge (kd65 rfl) rfl (fun c => ?_) (fun c => ?_)
    · have h := h.1 c
      refine r_aload_n (kd65 rfl) rfl rfl ?_
      refine r_bipush (kd65 rfl) (y := 64) (by decide) rfl ?_
      obtain ⟨g0, g3, g1, g2, h⟩ := h
      have h := h _ rfl
      refine r_newarray (kd65 rfl) (by decide) g0 g3 g1 g2 rfl ?_
      obtain ⟨g, h⟩ := h
      have h := h _ rfl
      refine r_put2 (kd65 rfl) (by decide) rfl g rfl ?_
      refine r_aload_n (kd65 rfl) rfl rfl ?_
      refine r_sipush (kd65 rfl) (y := 1500) (by decide) rfl ?_
      obtain ⟨g0, g3, g1, g2, h⟩ := h
      have h := h _ rfl
      refine r_newarray (kd65 rfl) (by decide) g0 g3 g1 g2 rfl ?_
      obtain ⟨g, h⟩ := h
      have h := h _ rfl
      refine r_put2 (kd65 rfl) (by decide) rfl g rfl ?_
      refine r_aload_n (kd65 rfl) rfl rfl ?_
      refine r_sipush (kd65 rfl) (y := 1500) (by decide) rfl ?_
      obtain ⟨g0, g3, g1, g2, h⟩ := h
      have h := h _ rfl
      refine r_newarray (kd65 rfl) (by decide) g0 g3 g1 g2 rfl ?_
      obtain ⟨g, h⟩ := h
      have h := h _ rfl
      refine r_put2 (kd65 rfl) (by decide) rfl g rfl ?_
      refine r_aload_n (kd65 rfl) rfl rfl ?_
      refine r_sipush (kd65 rfl) (y := 1500) (by decide) rfl ?_
      obtain ⟨g0, g3, g1, g2, h⟩ := h
      have h := h _ rfl
      refine r_newarray (kd65 rfl) (by decide) g0 g3 g1 g2 rfl ?_
      obtain ⟨g, h⟩ := h
      have h := h _ rfl
      refine r_put2 (kd65 rfl) (by decide) rfl g rfl ?_
      refine r_aload_n (kd65 rfl) rfl rfl ?_
      refine r_sipush (kd65 rfl) (y := 1500) (by decide) rfl ?_
      obtain ⟨g0, g3, g1, g2, h⟩ := h
      have h := h _ rfl
      refine r_newarray (kd65 rfl) (by decide) g0 g3 g1 g2 rfl ?_
      obtain ⟨g, h⟩ := h
      have h := h _ rfl
      refine r_put2 (kd65 rfl) (by decide) rfl g rfl ?_
      refine r_aload_n (kd65 rfl) rfl rfl ?_
      refine r_sipush (kd65 rfl) (y := 1500) (by decide) rfl ?_
      obtain ⟨g0, g3, g1, g2, h⟩ := h
      have h := h _ rfl
      refine r_newarray (kd65 rfl) (by decide) g0 g3 g1 g2 rfl ?_
      obtain ⟨g, h⟩ := h
      have h := h _ rfl
      refine r_put2 (kd65 rfl) (by decide) rfl g rfl ?_
      exact r_return (kd65 rfl) R65 h
    · have h := h.2 c
      refine r_aload_n (kd65 rfl) rfl rfl ?_
      obtain ⟨g, h⟩ := h
      refine r_get2 (kd65 rfl) (by decide) rfl g rfl ?_
      refine r_iload_n (kd65 rfl) rfl rfl ?_
      obtain ⟨g1, g2, h⟩ := h
      have h := h _ rfl
      refine r_new (kd65 rfl) (by decide) (n := 7) rfl g1 g2 rfl ?_
      refine r_dup (kd65 rfl) rfl rfl ?_
      obtain ⟨g, h⟩ := h
      obtain ⟨mc, ms, q1, q2, h⟩ := h
      refine r_callIV (d' := d - 1) (by omega) (kd65 rfl) (by decide) rfl rfl rfl rfl (Nat.le_of_ble_eq_true rfl) rfl L81 (Nat.le_of_ble_eq_true rfl) (Nat.le_of_ble_eq_true rfl) g q1 q2 rfl rfl rfl (b_Shape_init (by omega) h) (fun M1 h => ?_)
      obtain ⟨g, h⟩ := h
      have h := h _ rfl
      refine r_aastore (kd65 rfl) g rfl ?_
      refine r_iinc (kd65 rfl) rfl (y := 1) (by decide) L65 (by decide) rfl rfl ?_
      refine r_goto (kd65 rfl) ?_
      exact (hk92 _ _ _ _ _ h).less (e_sc (List.mem_of_getElem? (i := 1) rfl) (e_sc (List.mem_of_getElem? (i := 0) rfl) e_sn))
def w_Program_init_56 : Nat → Nat → Nat → Nat → Int32 → eM → (eM → Prop) → Prop
  | 0, _, _, _, _, _, _ => False
  | n + 1, kc, ks, l0, l1, M, Q => (8 ≤ l1 → ¬ (16 : Int32) < 0 ∧ (16 : Int32).toNatClampNeg ≤ 400000 ∧ 1 ≤ kc ∧ (16 : Int32).toNatClampNeg ≤ ks ∧ ∀ M14 : eM, M14 = e_new M 24 (16 : Int32).toNatClampNeg → e_ob M14 l0 6 ∧ ∀ M15 : eM, M15 = e_sr M14 l0 10 M.1 → ∃ n16 : Nat, w_Program_init_92 n16 (kc - 1) (ks - (16 : Int32).toNatClampNeg) l0 0 M15 Q) ∧ (¬ 8 ≤ l1 → e_ob M l0 6 ∧ 1 ≤ kc ∧ 7 ≤ ks ∧ ∀ M17 : eM, M17 = e_new M 8 0 → e_c0 ≤ M.1 ∧ ∃ kc19 ks20 : Nat, kc19 ≤ (kc - 1) ∧ ks20 ≤ (ks - 7) ∧ w_Shape_init kc19 ks20 M.1 M17 (fun (M18 : eM) => ((e_ar M18 (gr M l0 8) 23 l1 ∧ e_ob M18 M.1 5) ∨ (e_ar M18 (gr M l0 8) 24 l1 ∧ e_ob M18 M.1 8)) ∧ ∀ M21 : eM, M21 = e_sr M18 (gr M l0 8) l1.toNatClampNeg M.1 → (fun kc ks l0 l1 M => w_Program_init_56 n kc ks l0 l1 M Q ) (kc - 1 - kc19) (ks - 7 - ks20) l0 (l1 + 1) M21))
theorem b_Program_init_56 {d : Nat} {Q : eM → Prop} (hd : 1 ≤ d) (n : Nat) : ∀ (kc ks : Nat) (l0 : Nat) (l1 : Int32) (M : eM), w_Program_init_56 n kc ks l0 l1 M Q → e_E 65 d kc ks 56 [(0, .ref l0), (1, .int l1)] [] M (e_QV Q) := by
  induction n with
  | zero => intro kc ks l0 l1 M h; exact False.elim h
  | succ n ih =>
    intro kc ks l0 l1 M h
    have hk56 := ih
    refine r_iload_n (kd65 rfl) rfl rfl ?_
    refine r_bipush (kd65 rfl) (y := 8) (by decide) rfl ?_
    refine r_icmp_ge (kd65 rfl) rfl (fun c => ?_) (fun c => ?_)
    · have h := h.1 c
      refine r_aload_n (kd65 rfl) rfl rfl ?_
      refine r_bipush (kd65 rfl) (y := 16) (by decide) rfl ?_
      obtain ⟨g0, g3, g1, g2, h⟩ := h
      have h := h _ rfl
      refine r_anewarray (kd65 rfl) (by decide) g0 g3 g1 g2 rfl ?_
      obtain ⟨g, h⟩ := h
      have h := h _ rfl
      refine r_put2 (kd65 rfl) (by decide) rfl g rfl ?_
      refine r_iconst (kd65 rfl) (y := 0) (by decide) rfl ?_
      refine r_istore_n (kd65 rfl) L65 (by decide) rfl rfl ?_
      obtain ⟨n, h⟩ := h
      exact (b_Program_init_92 hd n _ _ _ _ _ h).less (e_sc (List.mem_of_getElem? (i := 1) rfl) (e_sc (List.mem_of_getElem? (i := 0) rfl) e_sn))
    · have h := h.2 c
      refine r_aload_n (kd65 rfl) rfl rfl ?_
      obtain ⟨g, h⟩ := h
      refine r_get2 (kd65 rfl) (by decide) rfl g rfl ?_
      refine r_iload_n (kd65 rfl) rfl rfl ?_
      obtain ⟨g1, g2, h⟩ := h
      have h := h _ rfl
      refine r_new (kd65 rfl) (by decide) (n := 7) rfl g1 g2 rfl ?_
      refine r_dup (kd65 rfl) rfl rfl ?_
      obtain ⟨g, h⟩ := h
      obtain ⟨mc, ms, q1, q2, h⟩ := h
      refine r_callIV (d' := d - 1) (by omega) (kd65 rfl) (by decide) rfl rfl rfl rfl (Nat.le_of_ble_eq_true rfl) rfl L81 (Nat.le_of_ble_eq_true rfl) (Nat.le_of_ble_eq_true rfl) g q1 q2 rfl rfl rfl (b_Shape_init (by omega) h) (fun M1 h => ?_)
      obtain ⟨g, h⟩ := h
      have h := h _ rfl
      refine r_aastore (kd65 rfl) g rfl ?_
      refine r_iinc (kd65 rfl) rfl (y := 1) (by decide) L65 (by decide) rfl rfl ?_
      refine r_goto (kd65 rfl) ?_
      exact (hk56 _ _ _ _ _ h).less (e_sc (List.mem_of_getElem? (i := 1) rfl) (e_sc (List.mem_of_getElem? (i := 0) rfl) e_sn))
def w_Program_init (kc ks : Nat) (l0 : Nat) (M : eM) (Q : eM → Prop) : Prop := e_c0 ≤ l0 ∧ ¬ (1500 : Int32) < 0 ∧ (1500 : Int32).toNatClampNeg ≤ 400000 ∧ 1 ≤ kc ∧ (1500 : Int32).toNatClampNeg ≤ ks ∧ ∀ M1 : eM, M1 = e_new M 20 (1500 : Int32).toNatClampNeg → e_ob M1 l0 6 ∧ ∀ M2 : eM, M2 = e_sr M1 l0 0 M.1 → ¬ (8 : Int32) < 0 ∧ (8 : Int32).toNatClampNeg ≤ 400000 ∧ 1 ≤ (kc - 1) ∧ (8 : Int32).toNatClampNeg ≤ (ks - (1500 : Int32).toNatClampNeg) ∧ ∀ M3 : eM, M3 = e_new M2 20 (8 : Int32).toNatClampNeg → e_ob M3 l0 6 ∧ ∀ M4 : eM, M4 = e_sr M3 l0 3 M2.1 → ¬ (8 : Int32) < 0 ∧ (8 : Int32).toNatClampNeg ≤ 400000 ∧ 1 ≤ (kc - 1 - 1) ∧ (8 : Int32).toNatClampNeg ≤ (ks - (1500 : Int32).toNatClampNeg - (8 : Int32).toNatClampNeg) ∧ ∀ M5 : eM, M5 = e_new M4 20 (8 : Int32).toNatClampNeg → e_ob M5 l0 6 ∧ ∀ M6 : eM, M6 = e_sr M5 l0 4 M4.1 → ¬ (8 : Int32) < 0 ∧ (8 : Int32).toNatClampNeg ≤ 400000 ∧ 1 ≤ (kc - 1 - 1 - 1) ∧ (8 : Int32).toNatClampNeg ≤ (ks - (1500 : Int32).toNatClampNeg - (8 : Int32).toNatClampNeg - (8 : Int32).toNatClampNeg) ∧ ∀ M7 : eM, M7 = e_new M6 20 (8 : Int32).toNatClampNeg → e_ob M7 l0 6 ∧ ∀ M8 : eM, M8 = e_sr M7 l0 5 M6.1 → ¬ (64 : Int32) < 0 ∧ (64 : Int32).toNatClampNeg ≤ 400000 ∧ 1 ≤ (kc - 1 - 1 - 1 - 1) ∧ (64 : Int32).toNatClampNeg ≤ (ks - (1500 : Int32).toNatClampNeg - (8 : Int32).toNatClampNeg - (8 : Int32).toNatClampNeg - (8 : Int32).toNatClampNeg) ∧ ∀ M9 : eM, M9 = e_new M8 20 (64 : Int32).toNatClampNeg → e_ob M9 l0 6 ∧ ∀ M10 : eM, M10 = e_sr M9 l0 6 M8.1 → ¬ (8 : Int32) < 0 ∧ (8 : Int32).toNatClampNeg ≤ 400000 ∧ 1 ≤ (kc - 1 - 1 - 1 - 1 - 1) ∧ (8 : Int32).toNatClampNeg ≤ (ks - (1500 : Int32).toNatClampNeg - (8 : Int32).toNatClampNeg - (8 : Int32).toNatClampNeg - (8 : Int32).toNatClampNeg - (64 : Int32).toNatClampNeg) ∧ ∀ M11 : eM, M11 = e_new M10 24 (8 : Int32).toNatClampNeg → e_ob M11 l0 6 ∧ ∀ M12 : eM, M12 = e_sr M11 l0 8 M10.1 → ∃ n13 : Nat, w_Program_init_56 n13 (kc - 1 - 1 - 1 - 1 - 1 - 1) (ks - (1500 : Int32).toNatClampNeg - (8 : Int32).toNatClampNeg - (8 : Int32).toNatClampNeg - (8 : Int32).toNatClampNeg - (64 : Int32).toNatClampNeg - (8 : Int32).toNatClampNeg) l0 0 M12 Q
theorem b_Program_init {d : Nat} {kc ks : Nat} {l0 : Nat} {M : eM} {Q : eM → Prop} (hd : 1 ≤ d) (h : w_Program_init kc ks l0 M Q) : e_CV 65 d kc ks [.ref l0] M Q := by
  unfold w_Program_init at h
  show e_E 65 d kc ks 0 [(0, .ref l0)] [] M (e_QV Q)
  refine r_aload_n (kd65 rfl) rfl rfl ?_
  obtain ⟨g, h⟩ := h
  refine r_objInit (kd65 rfl) g (Nat.le_of_ble_eq_true rfl) rfl ?_
  refine r_aload_n (kd65 rfl) rfl rfl ?_
  refine r_sipush (kd65 rfl) (y := 1500) (by decide) rfl ?_
  obtain ⟨g0, g3, g1, g2, h⟩ := h
  have h := h _ rfl
  refine r_newarray (kd65 rfl) (by decide) g0 g3 g1 g2 rfl ?_
  obtain ⟨g, h⟩ := h
  have h := h _ rfl
  refine r_put2 (kd65 rfl) (by decide) rfl g rfl ?_
  refine r_aload_n (kd65 rfl) rfl rfl ?_
  refine r_bipush (kd65 rfl) (y := 8) (by decide) rfl ?_
  obtain ⟨g0, g3, g1, g2, h⟩ := h
  have h := h _ rfl
  refine r_newarray (kd65 rfl) (by decide) g0 g3 g1 g2 rfl ?_
  obtain ⟨g, h⟩ := h
  have h := h _ rfl
  refine r_put2 (kd65 rfl) (by decide) rfl g rfl ?_
  refine r_aload_n (kd65 rfl) rfl rfl ?_
  refine r_bipush (kd65 rfl) (y := 8) (by decide) rfl ?_
  obtain ⟨g0, g3, g1, g2, h⟩ := h
  have h := h _ rfl
  refine r_newarray (kd65 rfl) (by decide) g0 g3 g1 g2 rfl ?_
  obtain ⟨g, h⟩ := h
  have h := h _ rfl
  refine r_put2 (kd65 rfl) (by decide) rfl g rfl ?_
  refine r_aload_n (kd65 rfl) rfl rfl ?_
  refine r_bipush (kd65 rfl) (y := 8) (by decide) rfl ?_
  obtain ⟨g0, g3, g1, g2, h⟩ := h
  have h := h _ rfl
  refine r_newarray (kd65 rfl) (by decide) g0 g3 g1 g2 rfl ?_
  obtain ⟨g, h⟩ := h
  have h := h _ rfl
  refine r_put2 (kd65 rfl) (by decide) rfl g rfl ?_
  refine r_aload_n (kd65 rfl) rfl rfl ?_
  refine r_bipush (kd65 rfl) (y := 64) (by decide) rfl ?_
  obtain ⟨g0, g3, g1, g2, h⟩ := h
  have h := h _ rfl
  refine r_newarray (kd65 rfl) (by decide) g0 g3 g1 g2 rfl ?_
  obtain ⟨g, h⟩ := h
  have h := h _ rfl
  refine r_put2 (kd65 rfl) (by decide) rfl g rfl ?_
  refine r_aload_n (kd65 rfl) rfl rfl ?_
  refine r_bipush (kd65 rfl) (y := 8) (by decide) rfl ?_
  obtain ⟨g0, g3, g1, g2, h⟩ := h
  have h := h _ rfl
  refine r_anewarray (kd65 rfl) (by decide) g0 g3 g1 g2 rfl ?_
  obtain ⟨g, h⟩ := h
  have h := h _ rfl
  refine r_put2 (kd65 rfl) (by decide) rfl g rfl ?_
  refine r_iconst (kd65 rfl) (y := 0) (by decide) rfl ?_
  refine r_istore_n (kd65 rfl) L65 (by decide) rfl rfl ?_
  obtain ⟨n, h⟩ := h
  exact (b_Program_init_56 hd n _ _ _ _ _ h).less (e_sc (List.mem_of_getElem? (i := 1) rfl) (e_sc (List.mem_of_getElem? (i := 0) rfl) e_sn))
/-- TierMill$Program.begins(II)Z -/
theorem kd67 {pc : Nat} {q : eI} (h : e_d67.lookup pc = some q) : e_dec 67 pc = some q := h
theorem L67 : (e_m 67).2.2.1 = 4 := rfl
theorem R67 : (e_m 67).2.2.2.1 = (some .boolean) := rfl
def w_Program_begins_12 (M : eM) (Q : Int32 → eM → Prop) : Prop := ((0 : Int32) = 0 ∨ (0 : Int32) = 1) ∧ Q (0 : Int32) M
theorem b_Program_begins_12 {d : Nat} {M : eM} {Q : Int32 → eM → Prop} (hd : 0 ≤ d) (h : w_Program_begins_12 M Q ) : e_E 67 d 0 0 12 [] [] M (e_QI Q) := by
  unfold w_Program_begins_12 at h
  refine r_iconst (kd67 rfl) (y := 0) (by decide) rfl ?_
  exact r_zreturn (kd67 rfl) R67 h.1 h.2
def w_Program_begins_52 (s0 : Int32) (M : eM) (Q : Int32 → eM → Prop) : Prop := (s0 = 0 ∨ s0 = 1) ∧ Q s0 M
theorem b_Program_begins_52 {d : Nat} {s0 : Int32} {M : eM} {Q : Int32 → eM → Prop} (hd : 0 ≤ d) (h : w_Program_begins_52 s0 M Q ) : e_E 67 d 0 0 52 [] [.int s0] M (e_QI Q) := by
  unfold w_Program_begins_52 at h
  exact r_zreturn (kd67 rfl) R67 h.1 h.2
def w_Program_begins_51 (M : eM) (Q : Int32 → eM → Prop) : Prop := w_Program_begins_52 0 M Q
theorem b_Program_begins_51 {d : Nat} {M : eM} {Q : Int32 → eM → Prop} (hd : 0 ≤ d) (h : w_Program_begins_51 M Q ) : e_E 67 d 0 0 51 [] [] M (e_QI Q) := by
  unfold w_Program_begins_51 at h
  refine r_iconst (kd67 rfl) (y := 0) (by decide) rfl ?_
  exact (b_Program_begins_52 hd h).less e_sn
def w_Program_begins (l0 : Nat) (l1 : Int32) (l2 : Int32) (M : eM) (Q : Int32 → eM → Prop) : Prop := (l1 < 0 → w_Program_begins_12 M Q) ∧ (¬ l1 < 0 → e_ob M l0 6 ∧ (l1 < (gi M l0 9) → e_ob M l0 6 ∧ (e_ar M (gr M l0 10) 23 l1 ∨ e_ar M (gr M l0 10) 24 l1) ∧ (l2 < 0 → w_Program_begins_51 M Q) ∧ (¬ l2 < 0 → e_ob M (gr M (gr M l0 10) l1.toNatClampNeg) 8 ∧ ((gi M (gr M (gr M l0 10) l1.toNatClampNeg) 6) ≤ l2 → w_Program_begins_51 M Q) ∧ (¬ (gi M (gr M (gr M l0 10) l1.toNatClampNeg) 6) ≤ l2 → e_ob M l0 6 ∧ e_ob M (gr M (gr M l0 10) l1.toNatClampNeg) 8 ∧ e_ai M (gr M l0 12) ((gi M (gr M (gr M l0 10) l1.toNatClampNeg) 5) + l2) ∧ ((gi M (gr M l0 12) ((gi M (gr M (gr M l0 10) l1.toNatClampNeg) 5) + l2).toNatClampNeg) = 0 → w_Program_begins_51 M Q) ∧ (¬ (gi M (gr M l0 12) ((gi M (gr M (gr M l0 10) l1.toNatClampNeg) 5) + l2).toNatClampNeg) = 0 → w_Program_begins_52 1 M Q)))) ∧ (¬ l1 < (gi M l0 9) → w_Program_begins_12 M Q))
theorem b_Program_begins {d : Nat} {l0 : Nat} {l1 : Int32} {l2 : Int32} {M : eM} {Q : Int32 → eM → Prop} (hd : 0 ≤ d) (h : w_Program_begins l0 l1 l2 M Q) : e_CI 67 d 0 0 [.ref l0, .int l1, .int l2] M Q := by
  unfold w_Program_begins at h
  show e_E 67 d 0 0 0 [(0, .ref l0), (1, .int l1), (2, .int l2)] [] M (e_QI Q)
  refine r_iload_n (kd67 rfl) rfl rfl ?_
  refine r_if_lt (kd67 rfl) rfl (fun c => ?_) (fun c => ?_)
  · have h := h.1 c
    exact (b_Program_begins_12 hd h).less e_sn
  · have h := h.2 c
    refine r_iload_n (kd67 rfl) rfl rfl ?_
    refine r_aload_n (kd67 rfl) rfl rfl ?_
    obtain ⟨g, h⟩ := h
    refine r_get0 (kd67 rfl) (by decide) rfl g rfl ?_
    refine r_icmp_lt (kd67 rfl) rfl (fun c => ?_) (fun c => ?_)
    · have h := h.1 c
      refine r_aload_n (kd67 rfl) rfl rfl ?_
      obtain ⟨g, h⟩ := h
      refine r_get2 (kd67 rfl) (by decide) rfl g rfl ?_
      refine r_iload_n (kd67 rfl) rfl rfl ?_
      obtain ⟨g, h⟩ := h
      refine r_aaload (kd67 rfl) g rfl ?_
      refine r_astore_n (kd67 rfl) L67 (by decide) rfl rfl ?_
      refine r_iload_n (kd67 rfl) rfl rfl ?_
      refine r_if_lt (kd67 rfl) rfl (fun c => ?_) (fun c => ?_)
      · have h := h.1 c
        exact (b_Program_begins_51 hd h).less e_sn
      · have h := h.2 c
        refine r_iload_n (kd67 rfl) rfl rfl ?_
        refine r_aload_n (kd67 rfl) rfl rfl ?_
        obtain ⟨g, h⟩ := h
        refine r_get0 (kd67 rfl) (by decide) rfl g rfl ?_
        refine r_icmp_ge (kd67 rfl) rfl (fun c => ?_) (fun c => ?_)
        · have h := h.1 c
          exact (b_Program_begins_51 hd h).less e_sn
        · have h := h.2 c
          refine r_aload_n (kd67 rfl) rfl rfl ?_
          obtain ⟨g, h⟩ := h
          refine r_get2 (kd67 rfl) (by decide) rfl g rfl ?_
          refine r_aload_n (kd67 rfl) rfl rfl ?_
          obtain ⟨g, h⟩ := h
          refine r_get0 (kd67 rfl) (by decide) rfl g rfl ?_
          refine r_iload_n (kd67 rfl) rfl rfl ?_
          refine r_iadd (kd67 rfl) rfl ?_
          obtain ⟨g, h⟩ := h
          refine r_iaload (kd67 rfl) g rfl ?_
          refine r_if_eq (kd67 rfl) rfl (fun c => ?_) (fun c => ?_)
          · have h := h.1 c
            exact (b_Program_begins_51 hd h).less e_sn
          · have h := h.2 c
            refine r_iconst (kd67 rfl) (y := 1) (by decide) rfl ?_
            refine r_goto (kd67 rfl) ?_
            exact (b_Program_begins_52 hd h).less e_sn
    · have h := h.2 c
      exact (b_Program_begins_12 hd h).less e_sn
/-- TierMill$Reader.<init>()V -/
theorem kd71 {pc : Nat} {q : eI} (h : e_d71.lookup pc = some q) : e_dec 71 pc = some q := h
theorem L71 : (e_m 71).2.2.1 = 1 := rfl
theorem R71 : (e_m 71).2.2.2.1 = none := rfl
def w_Reader_init (l0 : Nat) (M : eM) (Q : eM → Prop) : Prop := e_c0 ≤ l0 ∧ Q M
theorem b_Reader_init {d : Nat} {l0 : Nat} {M : eM} {Q : eM → Prop} (hd : 0 ≤ d) (h : w_Reader_init l0 M Q) : e_CV 71 d 0 0 [.ref l0] M Q := by
  unfold w_Reader_init at h
  show e_E 71 d 0 0 0 [(0, .ref l0)] [] M (e_QV Q)
  refine r_aload_n (kd71 rfl) rfl rfl ?_
  obtain ⟨g, h⟩ := h
  refine r_objInit (kd71 rfl) g (Nat.le_of_ble_eq_true rfl) rfl ?_
  exact r_return (kd71 rfl) R71 h
/-- TierMill$Reader.take(II)I -/
theorem kd73 {pc : Nat} {q : eI} (h : e_d73.lookup pc = some q) : e_dec 73 pc = some q := h
theorem L73 : (e_m 73).2.2.1 = 4 := rfl
theorem R73 : (e_m 73).2.2.2.1 = (some .int) := rfl
def w_Reader_take_60 (l0 : Nat) (l1 : Int32) (M : eM) (Q : Int32 → eM → Prop) : Prop := e_ob M l0 7 ∧ e_ob M l0 7 ∧ ∀ M3 : eM, M3 = e_si M l0 2 (gi M l0 1) → Q l1 M3
theorem b_Reader_take_60 {d : Nat} {l0 : Nat} {l1 : Int32} {M : eM} {Q : Int32 → eM → Prop} (hd : 0 ≤ d) (h : w_Reader_take_60 l0 l1 M Q ) : e_E 73 d 0 0 60 [(0, .ref l0), (1, .int l1)] [] M (e_QI Q) := by
  unfold w_Reader_take_60 at h
  refine r_aload_n (kd73 rfl) rfl rfl ?_
  refine r_aload_n (kd73 rfl) rfl rfl ?_
  obtain ⟨g, h⟩ := h
  refine r_get0 (kd73 rfl) (by decide) rfl g rfl ?_
  obtain ⟨g, h⟩ := h
  have h := h _ rfl
  refine r_put0 (kd73 rfl) (by decide) rfl g rfl ?_
  refine r_iload_n (kd73 rfl) rfl rfl ?_
  exact r_ireturn (kd73 rfl) R73 h
def w_Reader_take (l0 : Nat) (l1 : Int32) (l2 : Int32) (M : eM) (Q : Int32 → eM → Prop) : Prop := e_ob M l0 7 ∧ ((gi M l0 2) = (-1) → e_ob M l0 7 ∧ e_ob M l0 7 ∧ e_ob M (gr M l0 0) 6 ∧ ((gi M l0 1) < (gi M (gr M l0 0) 1) → e_ob M l0 7 ∧ e_ob M (gr M l0 0) 6 ∧ e_ob M l0 7 ∧ e_ai M (gr M (gr M l0 0) 0) (gi M l0 1) ∧ ((gi M (gr M (gr M l0 0) 0) (gi M l0 1).toNatClampNeg) < l1 → w_Reader_take_60 l0 l1 M Q) ∧ (¬ (gi M (gr M (gr M l0 0) 0) (gi M l0 1).toNatClampNeg) < l1 → ((gi M (gr M (gr M l0 0) 0) (gi M l0 1).toNatClampNeg) ≤ l2 → e_ob M l0 7 ∧ e_ob M l0 7 ∧ ∀ M1 : eM, M1 = e_si M l0 1 ((gi M l0 1) + 1) → Q (gi M (gr M (gr M l0 0) 0) (gi M l0 1).toNatClampNeg) M1) ∧ (¬ (gi M (gr M (gr M l0 0) 0) (gi M l0 1).toNatClampNeg) ≤ l2 → w_Reader_take_60 l0 l1 M Q))) ∧ (¬ (gi M l0 1) < (gi M (gr M l0 0) 1) → e_ob M l0 7 ∧ e_ob M (gr M l0 0) 6 ∧ e_ob M l0 7 ∧ ∀ M2 : eM, M2 = e_si M l0 2 (gi M (gr M l0 0) 1) → Q l1 M2)) ∧ (¬ (gi M l0 2) = (-1) → Q l1 M)
theorem b_Reader_take {d : Nat} {l0 : Nat} {l1 : Int32} {l2 : Int32} {M : eM} {Q : Int32 → eM → Prop} (hd : 0 ≤ d) (h : w_Reader_take l0 l1 l2 M Q) : e_CI 73 d 0 0 [.ref l0, .int l1, .int l2] M Q := by
  unfold w_Reader_take at h
  show e_E 73 d 0 0 0 [(0, .ref l0), (1, .int l1), (2, .int l2)] [] M (e_QI Q)
  refine r_aload_n (kd73 rfl) rfl rfl ?_
  obtain ⟨g, h⟩ := h
  refine r_get0 (kd73 rfl) (by decide) rfl g rfl ?_
  refine r_iconst (kd73 rfl) (y := (-1)) (by decide) rfl ?_
  refine r_icmp_eq (kd73 rfl) rfl (fun c => ?_) (fun c => ?_)
  · have h := h.1 c
    refine r_aload_n (kd73 rfl) rfl rfl ?_
    obtain ⟨g, h⟩ := h
    refine r_get0 (kd73 rfl) (by decide) rfl g rfl ?_
    refine r_aload_n (kd73 rfl) rfl rfl ?_
    obtain ⟨g, h⟩ := h
    refine r_get2 (kd73 rfl) (by decide) rfl g rfl ?_
    obtain ⟨g, h⟩ := h
    refine r_get0 (kd73 rfl) (by decide) rfl g rfl ?_
    refine r_icmp_lt (kd73 rfl) rfl (fun c => ?_) (fun c => ?_)
    · have h := h.1 c
      refine r_aload_n (kd73 rfl) rfl rfl ?_
      obtain ⟨g, h⟩ := h
      refine r_get2 (kd73 rfl) (by decide) rfl g rfl ?_
      obtain ⟨g, h⟩ := h
      refine r_get2 (kd73 rfl) (by decide) rfl g rfl ?_
      refine r_aload_n (kd73 rfl) rfl rfl ?_
      obtain ⟨g, h⟩ := h
      refine r_get0 (kd73 rfl) (by decide) rfl g rfl ?_
      obtain ⟨g, h⟩ := h
      refine r_iaload (kd73 rfl) g rfl ?_
      refine r_istore_n (kd73 rfl) L73 (by decide) rfl rfl ?_
      refine r_iload_n (kd73 rfl) rfl rfl ?_
      refine r_iload_n (kd73 rfl) rfl rfl ?_
      refine r_icmp_lt (kd73 rfl) rfl (fun c => ?_) (fun c => ?_)
      · have h := h.1 c
        exact (b_Reader_take_60 hd h).less (e_sc (List.mem_of_getElem? (i := 1) rfl) (e_sc (List.mem_of_getElem? (i := 2) rfl) e_sn))
      · have h := h.2 c
        refine r_iload_n (kd73 rfl) rfl rfl ?_
        refine r_iload_n (kd73 rfl) rfl rfl ?_
        refine r_icmp_le (kd73 rfl) rfl (fun c => ?_) (fun c => ?_)
        · have h := h.1 c
          refine r_aload_n (kd73 rfl) rfl rfl ?_
          refine r_dup (kd73 rfl) rfl rfl ?_
          obtain ⟨g, h⟩ := h
          refine r_get0 (kd73 rfl) (by decide) rfl g rfl ?_
          refine r_iconst (kd73 rfl) (y := 1) (by decide) rfl ?_
          refine r_iadd (kd73 rfl) rfl ?_
          obtain ⟨g, h⟩ := h
          have h := h _ rfl
          refine r_put0 (kd73 rfl) (by decide) rfl g rfl ?_
          refine r_iload_n (kd73 rfl) rfl rfl ?_
          exact r_ireturn (kd73 rfl) R73 h
        · have h := h.2 c
          exact (b_Reader_take_60 hd h).less (e_sc (List.mem_of_getElem? (i := 1) rfl) (e_sc (List.mem_of_getElem? (i := 2) rfl) e_sn))
    · have h := h.2 c
      refine r_aload_n (kd73 rfl) rfl rfl ?_
      refine r_aload_n (kd73 rfl) rfl rfl ?_
      obtain ⟨g, h⟩ := h
      refine r_get2 (kd73 rfl) (by decide) rfl g rfl ?_
      obtain ⟨g, h⟩ := h
      refine r_get0 (kd73 rfl) (by decide) rfl g rfl ?_
      obtain ⟨g, h⟩ := h
      have h := h _ rfl
      refine r_put0 (kd73 rfl) (by decide) rfl g rfl ?_
      refine r_iload_n (kd73 rfl) rfl rfl ?_
      exact r_ireturn (kd73 rfl) R73 h
  · have h := h.2 c
    refine r_iload_n (kd73 rfl) rfl rfl ?_
    exact r_ireturn (kd73 rfl) R73 h
/-- TierMill$Reader.takeType(I)I -/
theorem kd74 {pc : Nat} {q : eI} (h : e_d74.lookup pc = some q) : e_dec 74 pc = some q := h
theorem L74 : (e_m 74).2.2.1 = 3 := rfl
theorem R74 : (e_m 74).2.2.2.1 = (some .int) := rfl
def w_Reader_takeType_39 (l2 : Int32) (M : eM) (Q : Int32 → eM → Prop) : Prop := Q l2 M
theorem b_Reader_takeType_39 {d : Nat} {l2 : Int32} {M : eM} {Q : Int32 → eM → Prop} (hd : 1 ≤ d) (h : w_Reader_takeType_39 l2 M Q ) : e_E 74 d 0 0 39 [(2, .int l2)] [] M (e_QI Q) := by
  unfold w_Reader_takeType_39 at h
  refine r_iload_n (kd74 rfl) rfl rfl ?_
  exact r_ireturn (kd74 rfl) R74 h
def w_Reader_takeType (l0 : Nat) (l1 : Int32) (M : eM) (Q : Int32 → eM → Prop) : Prop := e_ob M l0 7 ∧ e_ob M (gr M l0 0) 6 ∧ e_ob M l0 7 ∧ w_Reader_take l0 l1 ((16 + (gi M (gr M l0 0) 2)) - 1) M (fun (v2 : Int32) (M1 : eM) => (v2 ≤ 2 → w_Reader_takeType_39 v2 M1 Q) ∧ (¬ v2 ≤ 2 → (16 ≤ v2 → w_Reader_takeType_39 v2 M1 Q) ∧ (¬ 16 ≤ v2 → e_ob M1 l0 7 ∧ e_ob M1 l0 7 ∧ ∀ M3 : eM, M3 = e_si M1 l0 2 ((gi M1 l0 1) - 1) → w_Reader_takeType_39 v2 M3 Q)))
theorem b_Reader_takeType {d : Nat} {l0 : Nat} {l1 : Int32} {M : eM} {Q : Int32 → eM → Prop} (hd : 1 ≤ d) (h : w_Reader_takeType l0 l1 M Q) : e_CI 74 d 0 0 [.ref l0, .int l1] M Q := by
  unfold w_Reader_takeType at h
  show e_E 74 d 0 0 0 [(0, .ref l0), (1, .int l1)] [] M (e_QI Q)
  refine r_aload_n (kd74 rfl) rfl rfl ?_
  refine r_iload_n (kd74 rfl) rfl rfl ?_
  refine r_bipush (kd74 rfl) (y := 16) (by decide) rfl ?_
  refine r_aload_n (kd74 rfl) rfl rfl ?_
  obtain ⟨g, h⟩ := h
  refine r_get2 (kd74 rfl) (by decide) rfl g rfl ?_
  obtain ⟨g, h⟩ := h
  refine r_get0 (kd74 rfl) (by decide) rfl g rfl ?_
  refine r_iadd (kd74 rfl) rfl ?_
  refine r_iconst (kd74 rfl) (y := 1) (by decide) rfl ?_
  refine r_isub (kd74 rfl) rfl ?_
  obtain ⟨g, h⟩ := h
  refine r_callVI (d' := d - 1) (by omega) (kd74 rfl) (by decide) rfl rfl rfl rfl (Nat.le_of_ble_eq_true rfl) rfl L73 (Nat.le_of_ble_eq_true rfl) (Nat.le_of_ble_eq_true rfl) g (Nat.zero_le _) (Nat.zero_le _) rfl rfl rfl (b_Reader_take (by omega) h) (fun x1 M1 h => ?_)
  refine r_istore_n (kd74 rfl) L74 (by decide) rfl rfl ?_
  refine r_iload_n (kd74 rfl) rfl rfl ?_
  refine r_iconst (kd74 rfl) (y := 2) (by decide) rfl ?_
  refine r_icmp_le (kd74 rfl) rfl (fun c => ?_) (fun c => ?_)
  · have h := h.1 c
    exact (b_Reader_takeType_39 hd h).less (e_sc (List.mem_of_getElem? (i := 0) rfl) e_sn)
  · have h := h.2 c
    refine r_iload_n (kd74 rfl) rfl rfl ?_
    refine r_bipush (kd74 rfl) (y := 16) (by decide) rfl ?_
    refine r_icmp_ge (kd74 rfl) rfl (fun c => ?_) (fun c => ?_)
    · have h := h.1 c
      exact (b_Reader_takeType_39 hd h).less (e_sc (List.mem_of_getElem? (i := 0) rfl) e_sn)
    · have h := h.2 c
      refine r_aload_n (kd74 rfl) rfl rfl ?_
      refine r_aload_n (kd74 rfl) rfl rfl ?_
      obtain ⟨g, h⟩ := h
      refine r_get0 (kd74 rfl) (by decide) rfl g rfl ?_
      refine r_iconst (kd74 rfl) (y := 1) (by decide) rfl ?_
      refine r_isub (kd74 rfl) rfl ?_
      obtain ⟨g, h⟩ := h
      have h := h _ rfl
      refine r_put0 (kd74 rfl) (by decide) rfl g rfl ?_
      exact (b_Reader_takeType_39 hd h).less (e_sc (List.mem_of_getElem? (i := 0) rfl) e_sn)
/-- TierMill$Reader.readClasses()V -/
theorem kd75 {pc : Nat} {q : eI} (h : e_d75.lookup pc = some q) : e_dec 75 pc = some q := h
theorem L75 : (e_m 75).2.2.1 = 6 := rfl
theorem R75 : (e_m 75).2.2.2.1 = none := rfl
set_option maxRecDepth 100000 in
def w_Reader_readClasses_161 : Nat → Nat → Int32 → Int32 → Int32 → eM → (eM → Prop) → (Nat → Int32 → eM → Prop) → Prop
  | 0, _, _, _, _, _, _, _ => False
  | n + 1, l0, l1, l4, l5, M, Q, k16 => (l4 ≤ l5 → e_ob M l0 7 ∧ e_ob M (gr M l0 0) 6 ∧ e_ar M (gr M (gr M l0 0) 5) 20 l1 ∧ ∀ M14 : eM, M14 = e_si M (gr M (gr M l0 0) 5) l1.toNatClampNeg l4 → k16 l0 (l1 + 1) M14) ∧ (¬ l4 ≤ l5 → e_ob M l0 7 ∧ e_ob M (gr M l0 0) 6 ∧ e_ob M l0 7 ∧ w_Reader_takeType l0 1 M (fun (v16 : Int32) (M15 : eM) => e_ar M15 (gr M (gr M l0 0) 6) 20 ((l1 * 8) + l5) ∧ ∀ M17 : eM, M17 = e_si M15 (gr M (gr M l0 0) 6) ((l1 * 8) + l5).toNatClampNeg v16 → (fun l0 l1 l4 l5 M => w_Reader_readClasses_161 n l0 l1 l4 l5 M Q k16) l0 l1 l4 (l5 + 1) M17))
set_option maxRecDepth 100000 in
theorem b_Reader_readClasses_161 {d : Nat} {Q : eM → Prop} {k16 : Nat → Int32 → eM → Prop} (hd : 2 ≤ d) (n : Nat) (hk16 : ∀ (l0 : Nat) (l1 : Int32) (M : eM), k16 l0 l1 M → e_E 75 d 0 0 16 [(0, .ref l0), (1, .int l1)] [] M (e_QV Q)) : ∀ (l0 : Nat) (l1 : Int32) (l4 : Int32) (l5 : Int32) (M : eM), w_Reader_readClasses_161 n l0 l1 l4 l5 M Q k16 → e_E 75 d 0 0 161 [(0, .ref l0), (1, .int l1), (4, .int l4), (5, .int l5)] [] M (e_QV Q) := by
  induction n with
  | zero => intro l0 l1 l4 l5 M h; exact False.elim h
  | succ n ih =>
    intro l0 l1 l4 l5 M h
    have hk161 := ih
    refine r_iload (kd75 rfl) rfl rfl ?_
    refine r_iload (kd75 rfl) rfl rfl ?_
    refine r_icmp_ge (kd75 rfl) rfl (fun c => ?_) (fun c => ?_)
    · have h := h.1 c
      refine r_aload_n (kd75 rfl) rfl rfl ?_
      obtain ⟨g, h⟩ := h
      refine r_get2 (kd75 rfl) (by decide) rfl g rfl ?_
      obtain ⟨g, h⟩ := h
      refine r_get2 (kd75 rfl) (by decide) rfl g rfl ?_
      refine r_iload_n (kd75 rfl) rfl rfl ?_
      refine r_iload (kd75 rfl) rfl rfl ?_
      obtain ⟨g, h⟩ := h
      have h := h _ rfl
      refine r_iastore (kd75 rfl) g rfl ?_
      refine r_iinc (kd75 rfl) rfl (y := 1) (by decide) L75 (by decide) rfl rfl ?_
      refine r_goto (kd75 rfl) ?_
      exact (hk16 _ _ _ h).less (e_sc (List.mem_of_getElem? (i := 1) rfl) (e_sc (List.mem_of_getElem? (i := 0) rfl) e_sn))
    · have h := h.2 c
      refine r_aload_n (kd75 rfl) rfl rfl ?_
      obtain ⟨g, h⟩ := h
      refine r_get2 (kd75 rfl) (by decide) rfl g rfl ?_
      obtain ⟨g, h⟩ := h
      refine r_get2 (kd75 rfl) (by decide) rfl g rfl ?_
      refine r_iload_n (kd75 rfl) rfl rfl ?_
      refine r_bipush (kd75 rfl) (y := 8) (by decide) rfl ?_
      refine r_imul (kd75 rfl) rfl ?_
      refine r_iload (kd75 rfl) rfl rfl ?_
      refine r_iadd (kd75 rfl) rfl ?_
      refine r_aload_n (kd75 rfl) rfl rfl ?_
      refine r_iconst (kd75 rfl) (y := 1) (by decide) rfl ?_
      obtain ⟨g, h⟩ := h
      refine r_callVI (d' := d - 1) (by omega) (kd75 rfl) (by decide) rfl rfl rfl rfl (Nat.le_of_ble_eq_true rfl) rfl L74 (Nat.le_of_ble_eq_true rfl) (Nat.le_of_ble_eq_true rfl) g (Nat.zero_le _) (Nat.zero_le _) rfl rfl rfl (b_Reader_takeType (by omega) h) (fun x1 M1 h => ?_)
      obtain ⟨g, h⟩ := h
      have h := h _ rfl
      refine r_iastore (kd75 rfl) g rfl ?_
      refine r_iinc (kd75 rfl) rfl (y := 1) (by decide) L75 (by decide) rfl rfl ?_
      refine r_goto (kd75 rfl) ?_
      exact (hk161 _ _ _ _ _ h).less (e_sc (List.mem_of_getElem? (i := 1) rfl) (e_sc (List.mem_of_getElem? (i := 2) rfl) (e_sc (List.mem_of_getElem? (i := 3) rfl) (e_sc (List.mem_of_getElem? (i := 0) rfl) e_sn))))
set_option maxRecDepth 100000 in
def w_Reader_readClasses_99 : Nat → Nat → Int32 → Int32 → Int32 → Int32 → eM → (eM → Prop) → (Nat → Int32 → eM → Prop) → Prop
  | 0, _, _, _, _, _, _, _, _ => False
  | n + 1, l0, l1, l2, l3, l4, M, Q, k16 => (l3 ≤ l4 → e_ob M l0 7 ∧ w_Reader_take l0 0 (if (8 - l3) < 4 then (8 - l3) else 4) M (fun (v11 : Int32) (M10 : eM) => ∃ n12 : Nat, w_Reader_readClasses_161 n12 l0 l1 (l3 + v11) l3 M10 Q k16)) ∧ (¬ l3 ≤ l4 → e_ob M l0 7 ∧ e_ob M (gr M l0 0) 6 ∧ e_ob M l0 7 ∧ e_ob M (gr M l0 0) 6 ∧ e_ai M (gr M (gr M l0 0) 6) ((l2 * 8) + l4) ∧ e_ar M (gr M (gr M l0 0) 6) 20 ((l1 * 8) + l4) ∧ ∀ M13 : eM, M13 = e_si M (gr M (gr M l0 0) 6) ((l1 * 8) + l4).toNatClampNeg (gi M (gr M (gr M l0 0) 6) ((l2 * 8) + l4).toNatClampNeg) → (fun l0 l1 l2 l3 l4 M => w_Reader_readClasses_99 n l0 l1 l2 l3 l4 M Q k16) l0 l1 l2 l3 (l4 + 1) M13)
set_option maxRecDepth 100000 in
theorem b_Reader_readClasses_99 {d : Nat} {Q : eM → Prop} {k16 : Nat → Int32 → eM → Prop} (hd : 2 ≤ d) (n : Nat) (hk16 : ∀ (l0 : Nat) (l1 : Int32) (M : eM), k16 l0 l1 M → e_E 75 d 0 0 16 [(0, .ref l0), (1, .int l1)] [] M (e_QV Q)) : ∀ (l0 : Nat) (l1 : Int32) (l2 : Int32) (l3 : Int32) (l4 : Int32) (M : eM), w_Reader_readClasses_99 n l0 l1 l2 l3 l4 M Q k16 → e_E 75 d 0 0 99 [(0, .ref l0), (1, .int l1), (2, .int l2), (3, .int l3), (4, .int l4)] [] M (e_QV Q) := by
  induction n with
  | zero => intro l0 l1 l2 l3 l4 M h; exact False.elim h
  | succ n ih =>
    intro l0 l1 l2 l3 l4 M h
    have hk99 := ih
    refine r_iload (kd75 rfl) rfl rfl ?_
    refine r_iload_n (kd75 rfl) rfl rfl ?_
    refine r_icmp_ge (kd75 rfl) rfl (fun c => ?_) (fun c => ?_)
    · have h := h.1 c
      refine r_iload_n (kd75 rfl) rfl rfl ?_
      refine r_aload_n (kd75 rfl) rfl rfl ?_
      refine r_iconst (kd75 rfl) (y := 0) (by decide) rfl ?_
      refine r_iconst (kd75 rfl) (y := 4) (by decide) rfl ?_
      refine r_bipush (kd75 rfl) (y := 8) (by decide) rfl ?_
      refine r_iload_n (kd75 rfl) rfl rfl ?_
      refine r_isub (kd75 rfl) rfl ?_
      refine r_mmin (kd75 rfl) (Nat.le_of_ble_eq_true rfl) rfl ?_
      obtain ⟨g, h⟩ := h
      refine r_callVI (d' := d - 1) (by omega) (kd75 rfl) (by decide) rfl rfl rfl rfl (Nat.le_of_ble_eq_true rfl) rfl L73 (Nat.le_of_ble_eq_true rfl) (Nat.le_of_ble_eq_true rfl) g (Nat.zero_le _) (Nat.zero_le _) rfl rfl rfl (b_Reader_take (by omega) h) (fun x1 M1 h => ?_)
      refine r_iadd (kd75 rfl) rfl ?_
      refine r_istore (kd75 rfl) L75 (by decide) rfl rfl ?_
      refine r_iload_n (kd75 rfl) rfl rfl ?_
      refine r_istore (kd75 rfl) L75 (by decide) rfl rfl ?_
      obtain ⟨n, h⟩ := h
      exact (b_Reader_readClasses_161 hd n hk16 _ _ _ _ _ h).less (e_sc (List.mem_of_getElem? (i := 2) rfl) (e_sc (List.mem_of_getElem? (i := 3) rfl) (e_sc (List.mem_of_getElem? (i := 1) rfl) (e_sc (List.mem_of_getElem? (i := 0) rfl) e_sn))))
    · have h := h.2 c
      refine r_aload_n (kd75 rfl) rfl rfl ?_
      obtain ⟨g, h⟩ := h
      refine r_get2 (kd75 rfl) (by decide) rfl g rfl ?_
      obtain ⟨g, h⟩ := h
      refine r_get2 (kd75 rfl) (by decide) rfl g rfl ?_
      refine r_iload_n (kd75 rfl) rfl rfl ?_
      refine r_bipush (kd75 rfl) (y := 8) (by decide) rfl ?_
      refine r_imul (kd75 rfl) rfl ?_
      refine r_iload (kd75 rfl) rfl rfl ?_
      refine r_iadd (kd75 rfl) rfl ?_
      refine r_aload_n (kd75 rfl) rfl rfl ?_
      obtain ⟨g, h⟩ := h
      refine r_get2 (kd75 rfl) (by decide) rfl g rfl ?_
      obtain ⟨g, h⟩ := h
      refine r_get2 (kd75 rfl) (by decide) rfl g rfl ?_
      refine r_iload_n (kd75 rfl) rfl rfl ?_
      refine r_bipush (kd75 rfl) (y := 8) (by decide) rfl ?_
      refine r_imul (kd75 rfl) rfl ?_
      refine r_iload (kd75 rfl) rfl rfl ?_
      refine r_iadd (kd75 rfl) rfl ?_
      obtain ⟨g, h⟩ := h
      refine r_iaload (kd75 rfl) g rfl ?_
      obtain ⟨g, h⟩ := h
      have h := h _ rfl
      refine r_iastore (kd75 rfl) g rfl ?_
      refine r_iinc (kd75 rfl) rfl (y := 1) (by decide) L75 (by decide) rfl rfl ?_
      refine r_goto (kd75 rfl) ?_
      exact (hk99 _ _ _ _ _ _ h).less (e_sc (List.mem_of_getElem? (i := 1) rfl) (e_sc (List.mem_of_getElem? (i := 2) rfl) (e_sc (List.mem_of_getElem? (i := 3) rfl) (e_sc (List.mem_of_getElem? (i := 4) rfl) (e_sc (List.mem_of_getElem? (i := 0) rfl) e_sn)))))
set_option maxRecDepth 100000 in
def w_Reader_readClasses_94 (l0 : Nat) (l1 : Int32) (l2 : Int32) (l3 : Int32) (s0 : Int32) (s1 : Int32) (s2 : Int32) (s3 : Nat) (M : eM) (Q : eM → Prop) (k16 : Nat → Int32 → eM → Prop) : Prop := e_ar M s3 20 s2 ∧ ∀ M8 : eM, M8 = e_si M s3 s2.toNatClampNeg (s1 ||| s0) → ∃ n9 : Nat, w_Reader_readClasses_99 n9 l0 l1 l2 l3 0 M8 Q k16
set_option maxRecDepth 100000 in
theorem b_Reader_readClasses_94 {d : Nat} {l0 : Nat} {l1 : Int32} {l2 : Int32} {l3 : Int32} {s0 : Int32} {s1 : Int32} {s2 : Int32} {s3 : Nat} {M : eM} {Q : eM → Prop} {k16 : Nat → Int32 → eM → Prop} (hd : 2 ≤ d) (hk16 : ∀ (l0 : Nat) (l1 : Int32) (M : eM), k16 l0 l1 M → e_E 75 d 0 0 16 [(0, .ref l0), (1, .int l1)] [] M (e_QV Q)) (h : w_Reader_readClasses_94 l0 l1 l2 l3 s0 s1 s2 s3 M Q k16) : e_E 75 d 0 0 94 [(0, .ref l0), (1, .int l1), (2, .int l2), (3, .int l3)] [.int s0, .int s1, .int s2, .ref s3] M (e_QV Q) := by
  unfold w_Reader_readClasses_94 at h
  refine r_ior (kd75 rfl) rfl ?_
  obtain ⟨g, h⟩ := h
  have h := h _ rfl
  refine r_iastore (kd75 rfl) g rfl ?_
  refine r_iconst (kd75 rfl) (y := 0) (by decide) rfl ?_
  refine r_istore (kd75 rfl) L75 (by decide) rfl rfl ?_
  obtain ⟨n, h⟩ := h
  exact (b_Reader_readClasses_99 hd n hk16 _ _ _ _ _ _ h).less (e_sc (List.mem_of_getElem? (i := 1) rfl) (e_sc (List.mem_of_getElem? (i := 2) rfl) (e_sc (List.mem_of_getElem? (i := 3) rfl) (e_sc (List.mem_of_getElem? (i := 4) rfl) (e_sc (List.mem_of_getElem? (i := 0) rfl) e_sn)))))
set_option maxRecDepth 100000 in
def w_Reader_readClasses_54 (l0 : Nat) (l1 : Int32) (l2 : Int32) (s0 : Int32) (M : eM) (Q : eM → Prop) (k16 : Nat → Int32 → eM → Prop) : Prop := e_ob M l0 7 ∧ e_ob M (gr M l0 0) 6 ∧ e_ar M (gr M (gr M l0 0) 3) 20 l1 ∧ ∀ M7 : eM, M7 = e_si M (gr M (gr M l0 0) 3) l1.toNatClampNeg l2 → e_ob M7 l0 7 ∧ e_ob M7 (gr M7 l0 0) 6 ∧ (¬ l2 = (-1) → e_ob M7 l0 7 ∧ e_ob M7 (gr M7 l0 0) 6 ∧ e_ai M7 (gr M7 (gr M7 l0 0) 4) l2 ∧ w_Reader_readClasses_94 l0 l1 l2 s0 (gi M7 (gr M7 (gr M7 l0 0) 4) l2.toNatClampNeg) (1 <<< (l1 &&& 31)) l1 (gr M7 (gr M7 l0 0) 4) M7 Q k16) ∧ (l2 = (-1) → w_Reader_readClasses_94 l0 l1 l2 s0 0 (1 <<< (l1 &&& 31)) l1 (gr M7 (gr M7 l0 0) 4) M7 Q k16)
set_option maxRecDepth 100000 in
theorem b_Reader_readClasses_54 {d : Nat} {l0 : Nat} {l1 : Int32} {l2 : Int32} {s0 : Int32} {M : eM} {Q : eM → Prop} {k16 : Nat → Int32 → eM → Prop} (hd : 2 ≤ d) (hk16 : ∀ (l0 : Nat) (l1 : Int32) (M : eM), k16 l0 l1 M → e_E 75 d 0 0 16 [(0, .ref l0), (1, .int l1)] [] M (e_QV Q)) (h : w_Reader_readClasses_54 l0 l1 l2 s0 M Q k16) : e_E 75 d 0 0 54 [(0, .ref l0), (1, .int l1), (2, .int l2)] [.int s0] M (e_QV Q) := by
  unfold w_Reader_readClasses_54 at h
  refine r_istore_n (kd75 rfl) L75 (by decide) rfl rfl ?_
  refine r_aload_n (kd75 rfl) rfl rfl ?_
  obtain ⟨g, h⟩ := h
  refine r_get2 (kd75 rfl) (by decide) rfl g rfl ?_
  obtain ⟨g, h⟩ := h
  refine r_get2 (kd75 rfl) (by decide) rfl g rfl ?_
  refine r_iload_n (kd75 rfl) rfl rfl ?_
  refine r_iload_n (kd75 rfl) rfl rfl ?_
  obtain ⟨g, h⟩ := h
  have h := h _ rfl
  refine r_iastore (kd75 rfl) g rfl ?_
  refine r_aload_n (kd75 rfl) rfl rfl ?_
  obtain ⟨g, h⟩ := h
  refine r_get2 (kd75 rfl) (by decide) rfl g rfl ?_
  obtain ⟨g, h⟩ := h
  refine r_get2 (kd75 rfl) (by decide) rfl g rfl ?_
  refine r_iload_n (kd75 rfl) rfl rfl ?_
  refine r_iconst (kd75 rfl) (y := 1) (by decide) rfl ?_
  refine r_iload_n (kd75 rfl) rfl rfl ?_
  refine r_ishl (kd75 rfl) rfl ?_
  refine r_iload_n (kd75 rfl) rfl rfl ?_
  refine r_iconst (kd75 rfl) (y := (-1)) (by decide) rfl ?_
  refine r_icmp_ne (kd75 rfl) rfl (fun c => ?_) (fun c => ?_)
  · have h := h.1 c
    refine r_aload_n (kd75 rfl) rfl rfl ?_
    obtain ⟨g, h⟩ := h
    refine r_get2 (kd75 rfl) (by decide) rfl g rfl ?_
    obtain ⟨g, h⟩ := h
    refine r_get2 (kd75 rfl) (by decide) rfl g rfl ?_
    refine r_iload_n (kd75 rfl) rfl rfl ?_
    obtain ⟨g, h⟩ := h
    refine r_iaload (kd75 rfl) g rfl ?_
    exact (b_Reader_readClasses_94 hd hk16 h).less (e_sc (List.mem_of_getElem? (i := 1) rfl) (e_sc (List.mem_of_getElem? (i := 2) rfl) (e_sc (List.mem_of_getElem? (i := 3) rfl) (e_sc (List.mem_of_getElem? (i := 0) rfl) e_sn))))
  · have h := h.2 c
    refine r_iconst (kd75 rfl) (y := 0) (by decide) rfl ?_
    refine r_goto (kd75 rfl) ?_
    exact (b_Reader_readClasses_94 hd hk16 h).less (e_sc (List.mem_of_getElem? (i := 1) rfl) (e_sc (List.mem_of_getElem? (i := 2) rfl) (e_sc (List.mem_of_getElem? (i := 3) rfl) (e_sc (List.mem_of_getElem? (i := 0) rfl) e_sn))))
set_option maxRecDepth 100000 in
def w_Reader_readClasses_16 : Nat → Nat → Int32 → eM → (eM → Prop) → Prop
  | 0, _, _, _, _ => False
  | n + 1, l0, l1, M, Q => e_ob M l0 7 ∧ e_ob M (gr M l0 0) 6 ∧ ((gi M (gr M l0 0) 2) ≤ l1 → Q M) ∧ (¬ (gi M (gr M l0 0) 2) ≤ l1 → e_ob M l0 7 ∧ w_Reader_take l0 0 l1 M (fun (v6 : Int32) (M5 : eM) => (¬ (v6 - 1) = (-1) → e_ob M5 l0 7 ∧ e_ob M5 (gr M5 l0 0) 6 ∧ e_ai M5 (gr M5 (gr M5 l0 0) 5) (v6 - 1) ∧ w_Reader_readClasses_54 l0 l1 (v6 - 1) (gi M5 (gr M5 (gr M5 l0 0) 5) (v6 - 1).toNatClampNeg) M5 Q (fun l0 l1 M => w_Reader_readClasses_16 n l0 l1 M Q )) ∧ ((v6 - 1) = (-1) → w_Reader_readClasses_54 l0 l1 (v6 - 1) 0 M5 Q (fun l0 l1 M => w_Reader_readClasses_16 n l0 l1 M Q ))))
set_option maxRecDepth 100000 in
theorem b_Reader_readClasses_16 {d : Nat} {Q : eM → Prop} (hd : 2 ≤ d) (n : Nat) : ∀ (l0 : Nat) (l1 : Int32) (M : eM), w_Reader_readClasses_16 n l0 l1 M Q → e_E 75 d 0 0 16 [(0, .ref l0), (1, .int l1)] [] M (e_QV Q) := by
  induction n with
  | zero => intro l0 l1 M h; exact False.elim h
  | succ n ih =>
    intro l0 l1 M h
    have hk16 := ih
    refine r_iload_n (kd75 rfl) rfl rfl ?_
    refine r_aload_n (kd75 rfl) rfl rfl ?_
    obtain ⟨g, h⟩ := h
    refine r_get2 (kd75 rfl) (by decide) rfl g rfl ?_
    obtain ⟨g, h⟩ := h
    refine r_get0 (kd75 rfl) (by decide) rfl g rfl ?_
    refine r_icmp_ge (kd75 rfl) rfl (fun c => ?_) (fun c => ?_)
    · have h := h.1 c
      exact r_return (kd75 rfl) R75 h
    · have h := h.2 c
      refine r_aload_n (kd75 rfl) rfl rfl ?_
      refine r_iconst (kd75 rfl) (y := 0) (by decide) rfl ?_
      refine r_iload_n (kd75 rfl) rfl rfl ?_
      obtain ⟨g, h⟩ := h
      refine r_callVI (d' := d - 1) (by omega) (kd75 rfl) (by decide) rfl rfl rfl rfl (Nat.le_of_ble_eq_true rfl) rfl L73 (Nat.le_of_ble_eq_true rfl) (Nat.le_of_ble_eq_true rfl) g (Nat.zero_le _) (Nat.zero_le _) rfl rfl rfl (b_Reader_take (by omega) h) (fun x1 M1 h => ?_)
      refine r_iconst (kd75 rfl) (y := 1) (by decide) rfl ?_
      refine r_isub (kd75 rfl) rfl ?_
      refine r_istore_n (kd75 rfl) L75 (by decide) rfl rfl ?_
      refine r_iload_n (kd75 rfl) rfl rfl ?_
      refine r_iconst (kd75 rfl) (y := (-1)) (by decide) rfl ?_
      refine r_icmp_ne (kd75 rfl) rfl (fun c => ?_) (fun c => ?_)
      · have h := h.1 c
        refine r_aload_n (kd75 rfl) rfl rfl ?_
        obtain ⟨g, h⟩ := h
        refine r_get2 (kd75 rfl) (by decide) rfl g rfl ?_
        obtain ⟨g, h⟩ := h
        refine r_get2 (kd75 rfl) (by decide) rfl g rfl ?_
        refine r_iload_n (kd75 rfl) rfl rfl ?_
        obtain ⟨g, h⟩ := h
        refine r_iaload (kd75 rfl) g rfl ?_
        exact (b_Reader_readClasses_54 hd hk16 h).less (e_sc (List.mem_of_getElem? (i := 1) rfl) (e_sc (List.mem_of_getElem? (i := 2) rfl) (e_sc (List.mem_of_getElem? (i := 0) rfl) e_sn)))
      · have h := h.2 c
        refine r_iconst (kd75 rfl) (y := 0) (by decide) rfl ?_
        refine r_goto (kd75 rfl) ?_
        exact (b_Reader_readClasses_54 hd hk16 h).less (e_sc (List.mem_of_getElem? (i := 1) rfl) (e_sc (List.mem_of_getElem? (i := 2) rfl) (e_sc (List.mem_of_getElem? (i := 0) rfl) e_sn)))
set_option maxRecDepth 100000 in
def w_Reader_readClasses (l0 : Nat) (M : eM) (Q : eM → Prop) : Prop := e_ob M l0 7 ∧ e_ob M l0 7 ∧ w_Reader_take l0 0 8 M (fun (v2 : Int32) (M1 : eM) => e_ob M1 (gr M l0 0) 6 ∧ ∀ M3 : eM, M3 = e_si M1 (gr M l0 0) 2 v2 → ∃ n4 : Nat, w_Reader_readClasses_16 n4 l0 0 M3 Q)
set_option maxRecDepth 100000 in
theorem b_Reader_readClasses {d : Nat} {l0 : Nat} {M : eM} {Q : eM → Prop} (hd : 2 ≤ d) (h : w_Reader_readClasses l0 M Q) : e_CV 75 d 0 0 [.ref l0] M Q := by
  unfold w_Reader_readClasses at h
  show e_E 75 d 0 0 0 [(0, .ref l0)] [] M (e_QV Q)
  refine r_aload_n (kd75 rfl) rfl rfl ?_
  obtain ⟨g, h⟩ := h
  refine r_get2 (kd75 rfl) (by decide) rfl g rfl ?_
  refine r_aload_n (kd75 rfl) rfl rfl ?_
  refine r_iconst (kd75 rfl) (y := 0) (by decide) rfl ?_
  refine r_bipush (kd75 rfl) (y := 8) (by decide) rfl ?_
  obtain ⟨g, h⟩ := h
  refine r_callVI (d' := d - 1) (by omega) (kd75 rfl) (by decide) rfl rfl rfl rfl (Nat.le_of_ble_eq_true rfl) rfl L73 (Nat.le_of_ble_eq_true rfl) (Nat.le_of_ble_eq_true rfl) g (Nat.zero_le _) (Nat.zero_le _) rfl rfl rfl (b_Reader_take (by omega) h) (fun x1 M1 h => ?_)
  obtain ⟨g, h⟩ := h
  have h := h _ rfl
  refine r_put0 (kd75 rfl) (by decide) rfl g rfl ?_
  refine r_iconst (kd75 rfl) (y := 0) (by decide) rfl ?_
  refine r_istore_n (kd75 rfl) L75 (by decide) rfl rfl ?_
  obtain ⟨n, h⟩ := h
  exact (b_Reader_readClasses_16 hd n _ _ _ h).less (e_sc (List.mem_of_getElem? (i := 1) rfl) (e_sc (List.mem_of_getElem? (i := 0) rfl) e_sn))
/-- TierMill$Reader.readShape(LTierMill$Shape;I)V -/
theorem kd77 {pc : Nat} {q : eI} (h : e_d77.lookup pc = some q) : e_dec 77 pc = some q := h
theorem L77 : (e_m 77).2.2.1 = 4 := rfl
theorem R77 : (e_m 77).2.2.2.1 = none := rfl
def w_Reader_readShape_12 : Nat → Nat → Nat → Int32 → eM → (eM → Prop) → Prop
  | 0, _, _, _, _, _ => False
  | n + 1, l0, l1, l3, M, Q => e_ob M l1 8 ∧ ((gi M l1 1) ≤ l3 → e_ob M l0 7 ∧ w_Reader_takeType l0 0 M (fun (v6 : Int32) (M5 : eM) => e_ob M5 l1 8 ∧ ∀ M7 : eM, M7 = e_si M5 l1 2 v6 → Q M7)) ∧ (¬ (gi M l1 1) ≤ l3 → e_ob M l1 8 ∧ e_ob M l0 7 ∧ w_Reader_takeType l0 1 M (fun (v9 : Int32) (M8 : eM) => e_ar M8 (gr M l1 0) 20 l3 ∧ ∀ M10 : eM, M10 = e_si M8 (gr M l1 0) l3.toNatClampNeg v9 → (fun l0 l1 l3 M => w_Reader_readShape_12 n l0 l1 l3 M Q ) l0 l1 (l3 + 1) M10))
theorem b_Reader_readShape_12 {d : Nat} {Q : eM → Prop} (hd : 2 ≤ d) (n : Nat) : ∀ (l0 : Nat) (l1 : Nat) (l3 : Int32) (M : eM), w_Reader_readShape_12 n l0 l1 l3 M Q → e_E 77 d 0 0 12 [(0, .ref l0), (1, .ref l1), (3, .int l3)] [] M (e_QV Q) := by
  induction n with
  | zero => intro l0 l1 l3 M h; exact False.elim h
  | succ n ih =>
    intro l0 l1 l3 M h
    have hk12 := ih
    refine r_iload_n (kd77 rfl) rfl rfl ?_
    refine r_aload_n (kd77 rfl) rfl rfl ?_
    obtain ⟨g, h⟩ := h
    refine r_get0 (kd77 rfl) (by decide) rfl g rfl ?_
    refine r_icmp_ge (kd77 rfl) rfl (fun c => ?_) (fun c => ?_)
    · have h := h.1 c
      refine r_aload_n (kd77 rfl) rfl rfl ?_
      refine r_aload_n (kd77 rfl) rfl rfl ?_
      refine r_iconst (kd77 rfl) (y := 0) (by decide) rfl ?_
      obtain ⟨g, h⟩ := h
      refine r_callVI (d' := d - 1) (by omega) (kd77 rfl) (by decide) rfl rfl rfl rfl (Nat.le_of_ble_eq_true rfl) rfl L74 (Nat.le_of_ble_eq_true rfl) (Nat.le_of_ble_eq_true rfl) g (Nat.zero_le _) (Nat.zero_le _) rfl rfl rfl (b_Reader_takeType (by omega) h) (fun x1 M1 h => ?_)
      obtain ⟨g, h⟩ := h
      have h := h _ rfl
      refine r_put0 (kd77 rfl) (by decide) rfl g rfl ?_
      exact r_return (kd77 rfl) R77 h
    · have h := h.2 c
      refine r_aload_n (kd77 rfl) rfl rfl ?_
      obtain ⟨g, h⟩ := h
      refine r_get2 (kd77 rfl) (by decide) rfl g rfl ?_
      refine r_iload_n (kd77 rfl) rfl rfl ?_
      refine r_aload_n (kd77 rfl) rfl rfl ?_
      refine r_iconst (kd77 rfl) (y := 1) (by decide) rfl ?_
      obtain ⟨g, h⟩ := h
      refine r_callVI (d' := d - 1) (by omega) (kd77 rfl) (by decide) rfl rfl rfl rfl (Nat.le_of_ble_eq_true rfl) rfl L74 (Nat.le_of_ble_eq_true rfl) (Nat.le_of_ble_eq_true rfl) g (Nat.zero_le _) (Nat.zero_le _) rfl rfl rfl (b_Reader_takeType (by omega) h) (fun x1 M1 h => ?_)
      obtain ⟨g, h⟩ := h
      have h := h _ rfl
      refine r_iastore (kd77 rfl) g rfl ?_
      refine r_iinc (kd77 rfl) rfl (y := 1) (by decide) L77 (by decide) rfl rfl ?_
      refine r_goto (kd77 rfl) ?_
      exact (hk12 _ _ _ _ h).less (e_sc (List.mem_of_getElem? (i := 1) rfl) (e_sc (List.mem_of_getElem? (i := 2) rfl) (e_sc (List.mem_of_getElem? (i := 0) rfl) e_sn)))
def w_Reader_readShape (l0 : Nat) (l1 : Nat) (l2 : Int32) (M : eM) (Q : eM → Prop) : Prop := e_ob M l0 7 ∧ w_Reader_take l0 0 l2 M (fun (v2 : Int32) (M1 : eM) => e_ob M1 l1 8 ∧ ∀ M3 : eM, M3 = e_si M1 l1 1 v2 → ∃ n4 : Nat, w_Reader_readShape_12 n4 l0 l1 0 M3 Q)
theorem b_Reader_readShape {d : Nat} {l0 : Nat} {l1 : Nat} {l2 : Int32} {M : eM} {Q : eM → Prop} (hd : 2 ≤ d) (h : w_Reader_readShape l0 l1 l2 M Q) : e_CV 77 d 0 0 [.ref l0, .ref l1, .int l2] M Q := by
  unfold w_Reader_readShape at h
  show e_E 77 d 0 0 0 [(0, .ref l0), (1, .ref l1), (2, .int l2)] [] M (e_QV Q)
  refine r_aload_n (kd77 rfl) rfl rfl ?_
  refine r_aload_n (kd77 rfl) rfl rfl ?_
  refine r_iconst (kd77 rfl) (y := 0) (by decide) rfl ?_
  refine r_iload_n (kd77 rfl) rfl rfl ?_
  obtain ⟨g, h⟩ := h
  refine r_callVI (d' := d - 1) (by omega) (kd77 rfl) (by decide) rfl rfl rfl rfl (Nat.le_of_ble_eq_true rfl) rfl L73 (Nat.le_of_ble_eq_true rfl) (Nat.le_of_ble_eq_true rfl) g (Nat.zero_le _) (Nat.zero_le _) rfl rfl rfl (b_Reader_take (by omega) h) (fun x1 M1 h => ?_)
  obtain ⟨g, h⟩ := h
  have h := h _ rfl
  refine r_put0 (kd77 rfl) (by decide) rfl g rfl ?_
  refine r_iconst (kd77 rfl) (y := 0) (by decide) rfl ?_
  refine r_istore_n (kd77 rfl) L77 (by decide) rfl rfl ?_
  obtain ⟨n, h⟩ := h
  exact (b_Reader_readShape_12 hd n _ _ _ _ h).less (e_sc (List.mem_of_getElem? (i := 1) rfl) (e_sc (List.mem_of_getElem? (i := 2) rfl) (e_sc (List.mem_of_getElem? (i := 0) rfl) e_sn)))
/-- TierMill$Reader.readSelectors()V -/
theorem kd76 {pc : Nat} {q : eI} (h : e_d76.lookup pc = some q) : e_dec 76 pc = some q := h
theorem L76 : (e_m 76).2.2.1 = 2 := rfl
theorem R76 : (e_m 76).2.2.2.1 = none := rfl
def w_Reader_readSelectors_16 : Nat → Nat → Int32 → eM → (eM → Prop) → Prop
  | 0, _, _, _, _ => False
  | n + 1, l0, l1, M, Q => e_ob M l0 7 ∧ e_ob M (gr M l0 0) 6 ∧ ((gi M (gr M l0 0) 7) ≤ l1 → Q M) ∧ (¬ (gi M (gr M l0 0) 7) ≤ l1 → e_ob M l0 7 ∧ e_ob M (gr M l0 0) 6 ∧ (e_ar M (gr M (gr M l0 0) 8) 23 l1 ∨ e_ar M (gr M (gr M l0 0) 8) 24 l1) ∧ e_ob M l0 7 ∧ w_Reader_readShape l0 (gr M (gr M (gr M l0 0) 8) l1.toNatClampNeg) 3 M (fun (M5 : eM) => (fun l0 l1 M => w_Reader_readSelectors_16 n l0 l1 M Q ) l0 (l1 + 1) M5))
theorem b_Reader_readSelectors_16 {d : Nat} {Q : eM → Prop} (hd : 3 ≤ d) (n : Nat) : ∀ (l0 : Nat) (l1 : Int32) (M : eM), w_Reader_readSelectors_16 n l0 l1 M Q → e_E 76 d 0 0 16 [(0, .ref l0), (1, .int l1)] [] M (e_QV Q) := by
  induction n with
  | zero => intro l0 l1 M h; exact False.elim h
  | succ n ih =>
    intro l0 l1 M h
    have hk16 := ih
    refine r_iload_n (kd76 rfl) rfl rfl ?_
    refine r_aload_n (kd76 rfl) rfl rfl ?_
    obtain ⟨g, h⟩ := h
    refine r_get2 (kd76 rfl) (by decide) rfl g rfl ?_
    obtain ⟨g, h⟩ := h
    refine r_get0 (kd76 rfl) (by decide) rfl g rfl ?_
    refine r_icmp_ge (kd76 rfl) rfl (fun c => ?_) (fun c => ?_)
    · have h := h.1 c
      exact r_return (kd76 rfl) R76 h
    · have h := h.2 c
      refine r_aload_n (kd76 rfl) rfl rfl ?_
      refine r_aload_n (kd76 rfl) rfl rfl ?_
      obtain ⟨g, h⟩ := h
      refine r_get2 (kd76 rfl) (by decide) rfl g rfl ?_
      obtain ⟨g, h⟩ := h
      refine r_get2 (kd76 rfl) (by decide) rfl g rfl ?_
      refine r_iload_n (kd76 rfl) rfl rfl ?_
      obtain ⟨g, h⟩ := h
      refine r_aaload (kd76 rfl) g rfl ?_
      refine r_iconst (kd76 rfl) (y := 3) (by decide) rfl ?_
      obtain ⟨g, h⟩ := h
      refine r_callVV (d' := d - 1) (by omega) (kd76 rfl) (by decide) rfl rfl rfl rfl (Nat.le_of_ble_eq_true rfl) rfl L77 (Nat.le_of_ble_eq_true rfl) (Nat.le_of_ble_eq_true rfl) g (Nat.zero_le _) (Nat.zero_le _) rfl rfl rfl (b_Reader_readShape (by omega) h) (fun M1 h => ?_)
      refine r_iinc (kd76 rfl) rfl (y := 1) (by decide) L76 (by decide) rfl rfl ?_
      refine r_goto (kd76 rfl) ?_
      exact (hk16 _ _ _ h).less (e_sc (List.mem_of_getElem? (i := 1) rfl) (e_sc (List.mem_of_getElem? (i := 0) rfl) e_sn))
def w_Reader_readSelectors (l0 : Nat) (M : eM) (Q : eM → Prop) : Prop := e_ob M l0 7 ∧ e_ob M l0 7 ∧ w_Reader_take l0 0 8 M (fun (v2 : Int32) (M1 : eM) => e_ob M1 (gr M l0 0) 6 ∧ ∀ M3 : eM, M3 = e_si M1 (gr M l0 0) 7 v2 → ∃ n4 : Nat, w_Reader_readSelectors_16 n4 l0 0 M3 Q)
theorem b_Reader_readSelectors {d : Nat} {l0 : Nat} {M : eM} {Q : eM → Prop} (hd : 3 ≤ d) (h : w_Reader_readSelectors l0 M Q) : e_CV 76 d 0 0 [.ref l0] M Q := by
  unfold w_Reader_readSelectors at h
  show e_E 76 d 0 0 0 [(0, .ref l0)] [] M (e_QV Q)
  refine r_aload_n (kd76 rfl) rfl rfl ?_
  obtain ⟨g, h⟩ := h
  refine r_get2 (kd76 rfl) (by decide) rfl g rfl ?_
  refine r_aload_n (kd76 rfl) rfl rfl ?_
  refine r_iconst (kd76 rfl) (y := 0) (by decide) rfl ?_
  refine r_bipush (kd76 rfl) (y := 8) (by decide) rfl ?_
  obtain ⟨g, h⟩ := h
  refine r_callVI (d' := d - 1) (by omega) (kd76 rfl) (by decide) rfl rfl rfl rfl (Nat.le_of_ble_eq_true rfl) rfl L73 (Nat.le_of_ble_eq_true rfl) (Nat.le_of_ble_eq_true rfl) g (Nat.zero_le _) (Nat.zero_le _) rfl rfl rfl (b_Reader_take (by omega) h) (fun x1 M1 h => ?_)
  obtain ⟨g, h⟩ := h
  have h := h _ rfl
  refine r_put0 (kd76 rfl) (by decide) rfl g rfl ?_
  refine r_iconst (kd76 rfl) (y := 0) (by decide) rfl ?_
  refine r_istore_n (kd76 rfl) L76 (by decide) rfl rfl ?_
  obtain ⟨n, h⟩ := h
  exact (b_Reader_readSelectors_16 hd n _ _ _ h).less (e_sc (List.mem_of_getElem? (i := 1) rfl) (e_sc (List.mem_of_getElem? (i := 0) rfl) e_sn))
/-- TierMill$Reader.readMethods()V -/
theorem kd78 {pc : Nat} {q : eI} (h : e_d78.lookup pc = some q) : e_dec 78 pc = some q := h
theorem L78 : (e_m 78).2.2.1 = 3 := rfl
theorem R78 : (e_m 78).2.2.2.1 = none := rfl
def w_Reader_readMethods_125 (l0 : Nat) (l1 : Int32) (l2 : Nat) (M : eM) (Q : eM → Prop) (k16 : Nat → Int32 → eM → Prop) : Prop := e_ob M l0 7 ∧ e_ob M l2 8 ∧ e_ob M l0 7 ∧ ∀ M17 : eM, M17 = e_si M l0 1 ((gi M l0 1) + (gi M l2 6)) → k16 l0 (l1 + 1) M17
theorem b_Reader_readMethods_125 {d : Nat} {l0 : Nat} {l1 : Int32} {l2 : Nat} {M : eM} {Q : eM → Prop} {k16 : Nat → Int32 → eM → Prop} (hd : 3 ≤ d) (hk16 : ∀ (l0 : Nat) (l1 : Int32) (M : eM), k16 l0 l1 M → e_E 78 d 0 0 16 [(0, .ref l0), (1, .int l1)] [] M (e_QV Q)) (h : w_Reader_readMethods_125 l0 l1 l2 M Q k16) : e_E 78 d 0 0 125 [(0, .ref l0), (1, .int l1), (2, .ref l2)] [] M (e_QV Q) := by
  unfold w_Reader_readMethods_125 at h
  refine r_aload_n (kd78 rfl) rfl rfl ?_
  refine r_dup (kd78 rfl) rfl rfl ?_
  obtain ⟨g, h⟩ := h
  refine r_get0 (kd78 rfl) (by decide) rfl g rfl ?_
  refine r_aload_n (kd78 rfl) rfl rfl ?_
  obtain ⟨g, h⟩ := h
  refine r_get0 (kd78 rfl) (by decide) rfl g rfl ?_
  refine r_iadd (kd78 rfl) rfl ?_
  obtain ⟨g, h⟩ := h
  have h := h _ rfl
  refine r_put0 (kd78 rfl) (by decide) rfl g rfl ?_
  refine r_iinc (kd78 rfl) rfl (y := 1) (by decide) L78 (by decide) rfl rfl ?_
  refine r_goto (kd78 rfl) ?_
  exact (hk16 _ _ _ h).less (e_sc (List.mem_of_getElem? (i := 1) rfl) (e_sc (List.mem_of_getElem? (i := 0) rfl) e_sn))
def w_Reader_readMethods_16 : Nat → Nat → Int32 → eM → (eM → Prop) → Prop
  | 0, _, _, _, _ => False
  | n + 1, l0, l1, M, Q => e_ob M l0 7 ∧ e_ob M (gr M l0 0) 6 ∧ ((gi M (gr M l0 0) 9) ≤ l1 → Q M) ∧ (¬ (gi M (gr M l0 0) 9) ≤ l1 → e_ob M l0 7 ∧ e_ob M (gr M l0 0) 6 ∧ (e_ar M (gr M (gr M l0 0) 10) 23 l1 ∨ e_ar M (gr M (gr M l0 0) 10) 24 l1) ∧ e_ob M l0 7 ∧ w_Reader_readShape l0 (gr M (gr M (gr M l0 0) 10) l1.toNatClampNeg) 4 M (fun (M5 : eM) => e_ob M5 (gr M (gr M (gr M l0 0) 10) l1.toNatClampNeg) 8 ∧ e_ob M5 l0 7 ∧ w_Reader_take l0 (gi M5 (gr M (gr M (gr M l0 0) 10) l1.toNatClampNeg) 1) 8 M5 (fun (v7 : Int32) (M6 : eM) => e_ob M6 (gr M (gr M (gr M l0 0) 10) l1.toNatClampNeg) 8 ∧ ∀ M8 : eM, M8 = e_si M6 (gr M (gr M (gr M l0 0) 10) l1.toNatClampNeg) 3 v7 → e_ob M8 l0 7 ∧ w_Reader_take l0 0 8 M8 (fun (v10 : Int32) (M9 : eM) => e_ob M9 (gr M (gr M (gr M l0 0) 10) l1.toNatClampNeg) 8 ∧ ∀ M11 : eM, M11 = e_si M9 (gr M (gr M (gr M l0 0) 10) l1.toNatClampNeg) 4 v10 → e_ob M11 l0 7 ∧ w_Reader_take l0 1 120 M11 (fun (v13 : Int32) (M12 : eM) => e_ob M12 (gr M (gr M (gr M l0 0) 10) l1.toNatClampNeg) 8 ∧ ∀ M14 : eM, M14 = e_si M12 (gr M (gr M (gr M l0 0) 10) l1.toNatClampNeg) 6 v13 → e_ob M14 l0 7 ∧ e_ob M14 (gr M (gr M (gr M l0 0) 10) l1.toNatClampNeg) 8 ∧ ∀ M15 : eM, M15 = e_si M14 (gr M (gr M (gr M l0 0) 10) l1.toNatClampNeg) 5 (gi M14 l0 1) → e_ob M15 l0 7 ∧ (¬ (gi M15 l0 2) = (-1) → w_Reader_readMethods_125 l0 l1 (gr M (gr M (gr M l0 0) 10) l1.toNatClampNeg) M15 Q (fun l0 l1 M => w_Reader_readMethods_16 n l0 l1 M Q )) ∧ ((gi M15 l0 2) = (-1) → e_ob M15 l0 7 ∧ e_ob M15 (gr M (gr M (gr M l0 0) 10) l1.toNatClampNeg) 8 ∧ e_ob M15 l0 7 ∧ e_ob M15 (gr M15 l0 0) 6 ∧ (((gi M15 l0 1) + (gi M15 (gr M (gr M (gr M l0 0) 10) l1.toNatClampNeg) 6)) ≤ (gi M15 (gr M15 l0 0) 1) → w_Reader_readMethods_125 l0 l1 (gr M (gr M (gr M l0 0) 10) l1.toNatClampNeg) M15 Q (fun l0 l1 M => w_Reader_readMethods_16 n l0 l1 M Q )) ∧ (¬ ((gi M15 l0 1) + (gi M15 (gr M (gr M (gr M l0 0) 10) l1.toNatClampNeg) 6)) ≤ (gi M15 (gr M15 l0 0) 1) → e_ob M15 l0 7 ∧ e_ob M15 (gr M15 l0 0) 6 ∧ e_ob M15 l0 7 ∧ ∀ M16 : eM, M16 = e_si M15 l0 2 (gi M15 (gr M15 l0 0) 1) → w_Reader_readMethods_125 l0 l1 (gr M (gr M (gr M l0 0) 10) l1.toNatClampNeg) M16 Q (fun l0 l1 M => w_Reader_readMethods_16 n l0 l1 M Q ))))))))
theorem b_Reader_readMethods_16 {d : Nat} {Q : eM → Prop} (hd : 3 ≤ d) (n : Nat) : ∀ (l0 : Nat) (l1 : Int32) (M : eM), w_Reader_readMethods_16 n l0 l1 M Q → e_E 78 d 0 0 16 [(0, .ref l0), (1, .int l1)] [] M (e_QV Q) := by
  induction n with
  | zero => intro l0 l1 M h; exact False.elim h
  | succ n ih =>
    intro l0 l1 M h
    have hk16 := ih
    refine r_iload_n (kd78 rfl) rfl rfl ?_
    refine r_aload_n (kd78 rfl) rfl rfl ?_
    obtain ⟨g, h⟩ := h
    refine r_get2 (kd78 rfl) (by decide) rfl g rfl ?_
    obtain ⟨g, h⟩ := h
    refine r_get0 (kd78 rfl) (by decide) rfl g rfl ?_
    refine r_icmp_ge (kd78 rfl) rfl (fun c => ?_) (fun c => ?_)
    · have h := h.1 c
      exact r_return (kd78 rfl) R78 h
    · have h := h.2 c
      refine r_aload_n (kd78 rfl) rfl rfl ?_
      obtain ⟨g, h⟩ := h
      refine r_get2 (kd78 rfl) (by decide) rfl g rfl ?_
      obtain ⟨g, h⟩ := h
      refine r_get2 (kd78 rfl) (by decide) rfl g rfl ?_
      refine r_iload_n (kd78 rfl) rfl rfl ?_
      obtain ⟨g, h⟩ := h
      refine r_aaload (kd78 rfl) g rfl ?_
      refine r_astore_n (kd78 rfl) L78 (by decide) rfl rfl ?_
      refine r_aload_n (kd78 rfl) rfl rfl ?_
      refine r_aload_n (kd78 rfl) rfl rfl ?_
      refine r_iconst (kd78 rfl) (y := 4) (by decide) rfl ?_
      obtain ⟨g, h⟩ := h
      refine r_callVV (d' := d - 1) (by omega) (kd78 rfl) (by decide) rfl rfl rfl rfl (Nat.le_of_ble_eq_true rfl) rfl L77 (Nat.le_of_ble_eq_true rfl) (Nat.le_of_ble_eq_true rfl) g (Nat.zero_le _) (Nat.zero_le _) rfl rfl rfl (b_Reader_readShape (by omega) h) (fun M1 h => ?_)
      refine r_aload_n (kd78 rfl) rfl rfl ?_
      refine r_aload_n (kd78 rfl) rfl rfl ?_
      refine r_aload_n (kd78 rfl) rfl rfl ?_
      obtain ⟨g, h⟩ := h
      refine r_get0 (kd78 rfl) (by decide) rfl g rfl ?_
      refine r_bipush (kd78 rfl) (y := 8) (by decide) rfl ?_
      obtain ⟨g, h⟩ := h
      refine r_callVI (d' := d - 1) (by omega) (kd78 rfl) (by decide) rfl rfl rfl rfl (Nat.le_of_ble_eq_true rfl) rfl L73 (Nat.le_of_ble_eq_true rfl) (Nat.le_of_ble_eq_true rfl) g (Nat.zero_le _) (Nat.zero_le _) rfl rfl rfl (b_Reader_take (by omega) h) (fun x1 M1 h => ?_)
      obtain ⟨g, h⟩ := h
      have h := h _ rfl
      refine r_put0 (kd78 rfl) (by decide) rfl g rfl ?_
      refine r_aload_n (kd78 rfl) rfl rfl ?_
      refine r_aload_n (kd78 rfl) rfl rfl ?_
      refine r_iconst (kd78 rfl) (y := 0) (by decide) rfl ?_
      refine r_bipush (kd78 rfl) (y := 8) (by decide) rfl ?_
      obtain ⟨g, h⟩ := h
      refine r_callVI (d' := d - 1) (by omega) (kd78 rfl) (by decide) rfl rfl rfl rfl (Nat.le_of_ble_eq_true rfl) rfl L73 (Nat.le_of_ble_eq_true rfl) (Nat.le_of_ble_eq_true rfl) g (Nat.zero_le _) (Nat.zero_le _) rfl rfl rfl (b_Reader_take (by omega) h) (fun x1 M1 h => ?_)
      obtain ⟨g, h⟩ := h
      have h := h _ rfl
      refine r_put0 (kd78 rfl) (by decide) rfl g rfl ?_
      refine r_aload_n (kd78 rfl) rfl rfl ?_
      refine r_aload_n (kd78 rfl) rfl rfl ?_
      refine r_iconst (kd78 rfl) (y := 1) (by decide) rfl ?_
      refine r_bipush (kd78 rfl) (y := 120) (by decide) rfl ?_
      obtain ⟨g, h⟩ := h
      refine r_callVI (d' := d - 1) (by omega) (kd78 rfl) (by decide) rfl rfl rfl rfl (Nat.le_of_ble_eq_true rfl) rfl L73 (Nat.le_of_ble_eq_true rfl) (Nat.le_of_ble_eq_true rfl) g (Nat.zero_le _) (Nat.zero_le _) rfl rfl rfl (b_Reader_take (by omega) h) (fun x1 M1 h => ?_)
      obtain ⟨g, h⟩ := h
      have h := h _ rfl
      refine r_put0 (kd78 rfl) (by decide) rfl g rfl ?_
      refine r_aload_n (kd78 rfl) rfl rfl ?_
      refine r_aload_n (kd78 rfl) rfl rfl ?_
      obtain ⟨g, h⟩ := h
      refine r_get0 (kd78 rfl) (by decide) rfl g rfl ?_
      obtain ⟨g, h⟩ := h
      have h := h _ rfl
      refine r_put0 (kd78 rfl) (by decide) rfl g rfl ?_
      refine r_aload_n (kd78 rfl) rfl rfl ?_
      obtain ⟨g, h⟩ := h
      refine r_get0 (kd78 rfl) (by decide) rfl g rfl ?_
      refine r_iconst (kd78 rfl) (y := (-1)) (by decide) rfl ?_
      refine r_icmp_ne (kd78 rfl) rfl (fun c => ?_) (fun c => ?_)
      · have h := h.1 c
        exact (b_Reader_readMethods_125 hd hk16 h).less (e_sc (List.mem_of_getElem? (i := 1) rfl) (e_sc (List.mem_of_getElem? (i := 2) rfl) (e_sc (List.mem_of_getElem? (i := 0) rfl) e_sn)))
      · have h := h.2 c
        refine r_aload_n (kd78 rfl) rfl rfl ?_
        obtain ⟨g, h⟩ := h
        refine r_get0 (kd78 rfl) (by decide) rfl g rfl ?_
        refine r_aload_n (kd78 rfl) rfl rfl ?_
        obtain ⟨g, h⟩ := h
        refine r_get0 (kd78 rfl) (by decide) rfl g rfl ?_
        refine r_iadd (kd78 rfl) rfl ?_
        refine r_aload_n (kd78 rfl) rfl rfl ?_
        obtain ⟨g, h⟩ := h
        refine r_get2 (kd78 rfl) (by decide) rfl g rfl ?_
        obtain ⟨g, h⟩ := h
        refine r_get0 (kd78 rfl) (by decide) rfl g rfl ?_
        refine r_icmp_le (kd78 rfl) rfl (fun c => ?_) (fun c => ?_)
        · have h := h.1 c
          exact (b_Reader_readMethods_125 hd hk16 h).less (e_sc (List.mem_of_getElem? (i := 1) rfl) (e_sc (List.mem_of_getElem? (i := 2) rfl) (e_sc (List.mem_of_getElem? (i := 0) rfl) e_sn)))
        · have h := h.2 c
          refine r_aload_n (kd78 rfl) rfl rfl ?_
          refine r_aload_n (kd78 rfl) rfl rfl ?_
          obtain ⟨g, h⟩ := h
          refine r_get2 (kd78 rfl) (by decide) rfl g rfl ?_
          obtain ⟨g, h⟩ := h
          refine r_get0 (kd78 rfl) (by decide) rfl g rfl ?_
          obtain ⟨g, h⟩ := h
          have h := h _ rfl
          refine r_put0 (kd78 rfl) (by decide) rfl g rfl ?_
          exact (b_Reader_readMethods_125 hd hk16 h).less (e_sc (List.mem_of_getElem? (i := 1) rfl) (e_sc (List.mem_of_getElem? (i := 2) rfl) (e_sc (List.mem_of_getElem? (i := 0) rfl) e_sn)))
def w_Reader_readMethods (l0 : Nat) (M : eM) (Q : eM → Prop) : Prop := e_ob M l0 7 ∧ e_ob M l0 7 ∧ w_Reader_take l0 1 16 M (fun (v2 : Int32) (M1 : eM) => e_ob M1 (gr M l0 0) 6 ∧ ∀ M3 : eM, M3 = e_si M1 (gr M l0 0) 9 v2 → ∃ n4 : Nat, w_Reader_readMethods_16 n4 l0 0 M3 Q)
theorem b_Reader_readMethods {d : Nat} {l0 : Nat} {M : eM} {Q : eM → Prop} (hd : 3 ≤ d) (h : w_Reader_readMethods l0 M Q) : e_CV 78 d 0 0 [.ref l0] M Q := by
  unfold w_Reader_readMethods at h
  show e_E 78 d 0 0 0 [(0, .ref l0)] [] M (e_QV Q)
  refine r_aload_n (kd78 rfl) rfl rfl ?_
  obtain ⟨g, h⟩ := h
  refine r_get2 (kd78 rfl) (by decide) rfl g rfl ?_
  refine r_aload_n (kd78 rfl) rfl rfl ?_
  refine r_iconst (kd78 rfl) (y := 1) (by decide) rfl ?_
  refine r_bipush (kd78 rfl) (y := 16) (by decide) rfl ?_
  obtain ⟨g, h⟩ := h
  refine r_callVI (d' := d - 1) (by omega) (kd78 rfl) (by decide) rfl rfl rfl rfl (Nat.le_of_ble_eq_true rfl) rfl L73 (Nat.le_of_ble_eq_true rfl) (Nat.le_of_ble_eq_true rfl) g (Nat.zero_le _) (Nat.zero_le _) rfl rfl rfl (b_Reader_take (by omega) h) (fun x1 M1 h => ?_)
  obtain ⟨g, h⟩ := h
  have h := h _ rfl
  refine r_put0 (kd78 rfl) (by decide) rfl g rfl ?_
  refine r_iconst (kd78 rfl) (y := 0) (by decide) rfl ?_
  refine r_istore_n (kd78 rfl) L78 (by decide) rfl rfl ?_
  obtain ⟨n, h⟩ := h
  exact (b_Reader_readMethods_16 hd n _ _ _ h).less (e_sc (List.mem_of_getElem? (i := 1) rfl) (e_sc (List.mem_of_getElem? (i := 0) rfl) e_sn))
/-- TierMill$Reader.suits(ILTierMill$Shape;LTierMill$Shape;)Z -/
theorem kd80 {pc : Nat} {q : eI} (h : e_d80.lookup pc = some q) : e_dec 80 pc = some q := h
theorem L80 : (e_m 80).2.2.1 = 6 := rfl
theorem R80 : (e_m 80).2.2.2.1 = (some .boolean) := rfl
def w_Reader_suits_24 (M : eM) (Q : Int32 → eM → Prop) : Prop := ((0 : Int32) = 0 ∨ (0 : Int32) = 1) ∧ Q (0 : Int32) M
theorem b_Reader_suits_24 {d : Nat} {M : eM} {Q : Int32 → eM → Prop} (hd : 1 ≤ d) (h : w_Reader_suits_24 M Q ) : e_E 80 d 0 0 24 [] [] M (e_QI Q) := by
  unfold w_Reader_suits_24 at h
  refine r_iconst (kd80 rfl) (y := 0) (by decide) rfl ?_
  exact r_zreturn (kd80 rfl) R80 h.1 h.2
def w_Reader_suits_57 (M : eM) (Q : Int32 → eM → Prop) : Prop := ((0 : Int32) = 0 ∨ (0 : Int32) = 1) ∧ Q (0 : Int32) M
theorem b_Reader_suits_57 {d : Nat} {M : eM} {Q : Int32 → eM → Prop} (hd : 1 ≤ d) (h : w_Reader_suits_57 M Q ) : e_E 80 d 0 0 57 [] [] M (e_QI Q) := by
  unfold w_Reader_suits_57 at h
  refine r_iconst (kd80 rfl) (y := 0) (by decide) rfl ?_
  exact r_zreturn (kd80 rfl) R80 h.1 h.2
def w_Reader_suits_62 : Nat → Nat → Nat → Int32 → eM → (Int32 → eM → Prop) → Prop
  | 0, _, _, _, _, _ => False
  | n + 1, l2, l3, l5, M, Q => e_ob M l2 8 ∧ ((gi M l2 1) ≤ l5 → ((1 : Int32) = 0 ∨ (1 : Int32) = 1) ∧ Q (1 : Int32) M) ∧ (¬ (gi M l2 1) ≤ l5 → e_ob M l3 8 ∧ e_ai M (gr M l3 0) (l5 + 1) ∧ e_ob M l2 8 ∧ e_ai M (gr M l2 0) l5 ∧ ((gi M (gr M l3 0) (l5 + 1).toNatClampNeg) = (gi M (gr M l2 0) l5.toNatClampNeg) → (fun l2 l3 l5 M => w_Reader_suits_62 n l2 l3 l5 M Q ) l2 l3 (l5 + 1) M) ∧ (¬ (gi M (gr M l3 0) (l5 + 1).toNatClampNeg) = (gi M (gr M l2 0) l5.toNatClampNeg) → ((0 : Int32) = 0 ∨ (0 : Int32) = 1) ∧ Q (0 : Int32) M))
theorem b_Reader_suits_62 {d : Nat} {Q : Int32 → eM → Prop} (hd : 1 ≤ d) (n : Nat) : ∀ (l2 : Nat) (l3 : Nat) (l5 : Int32) (M : eM), w_Reader_suits_62 n l2 l3 l5 M Q → e_E 80 d 0 0 62 [(2, .ref l2), (3, .ref l3), (5, .int l5)] [] M (e_QI Q) := by
  induction n with
  | zero => intro l2 l3 l5 M h; exact False.elim h
  | succ n ih =>
    intro l2 l3 l5 M h
    have hk62 := ih
    refine r_iload (kd80 rfl) rfl rfl ?_
    refine r_aload_n (kd80 rfl) rfl rfl ?_
    obtain ⟨g, h⟩ := h
    refine r_get0 (kd80 rfl) (by decide) rfl g rfl ?_
    refine r_icmp_ge (kd80 rfl) rfl (fun c => ?_) (fun c => ?_)
    · have h := h.1 c
      refine r_iconst (kd80 rfl) (y := 1) (by decide) rfl ?_
      exact r_zreturn (kd80 rfl) R80 h.1 h.2
    · have h := h.2 c
      refine r_aload_n (kd80 rfl) rfl rfl ?_
      obtain ⟨g, h⟩ := h
      refine r_get2 (kd80 rfl) (by decide) rfl g rfl ?_
      refine r_iload (kd80 rfl) rfl rfl ?_
      refine r_iconst (kd80 rfl) (y := 1) (by decide) rfl ?_
      refine r_iadd (kd80 rfl) rfl ?_
      obtain ⟨g, h⟩ := h
      refine r_iaload (kd80 rfl) g rfl ?_
      refine r_aload_n (kd80 rfl) rfl rfl ?_
      obtain ⟨g, h⟩ := h
      refine r_get2 (kd80 rfl) (by decide) rfl g rfl ?_
      refine r_iload (kd80 rfl) rfl rfl ?_
      obtain ⟨g, h⟩ := h
      refine r_iaload (kd80 rfl) g rfl ?_
      refine r_icmp_eq (kd80 rfl) rfl (fun c => ?_) (fun c => ?_)
      · have h := h.1 c
        refine r_iinc (kd80 rfl) rfl (y := 1) (by decide) L80 (by decide) rfl rfl ?_
        refine r_goto (kd80 rfl) ?_
        exact (hk62 _ _ _ _ h).less (e_sc (List.mem_of_getElem? (i := 1) rfl) (e_sc (List.mem_of_getElem? (i := 2) rfl) (e_sc (List.mem_of_getElem? (i := 0) rfl) e_sn)))
      · have h := h.2 c
        refine r_iconst (kd80 rfl) (y := 0) (by decide) rfl ?_
        exact r_zreturn (kd80 rfl) R80 h.1 h.2
def w_Reader_suits (l0 : Nat) (l1 : Int32) (l2 : Nat) (l3 : Nat) (M : eM) (Q : Int32 → eM → Prop) : Prop := e_ob M l3 8 ∧ e_ob M l2 8 ∧ (¬ (gi M l3 1) = ((gi M l2 1) + 1) → w_Reader_suits_24 M Q) ∧ ((gi M l3 1) = ((gi M l2 1) + 1) → e_ob M l3 8 ∧ e_ob M l2 8 ∧ ((gi M l3 2) = (gi M l2 2) → e_ob M l3 8 ∧ e_ai M (gr M l3 0) 0 ∧ ((gi M (gr M l3 0) (0 : Int32).toNatClampNeg) < 16 → w_Reader_suits_57 M Q) ∧ (¬ (gi M (gr M l3 0) (0 : Int32).toNatClampNeg) < 16 → e_ob M l0 7 ∧ e_ob M (gr M l0 0) 6 ∧ w_Program_isOrBelow (gr M l0 0) l1 ((gi M (gr M l3 0) (0 : Int32).toNatClampNeg) - 16) M (fun (v2 : Int32) (M1 : eM) => (¬ v2 = 0 → ∃ n3 : Nat, w_Reader_suits_62 n3 l2 l3 0 M1 Q) ∧ (v2 = 0 → w_Reader_suits_57 M1 Q)))) ∧ (¬ (gi M l3 2) = (gi M l2 2) → w_Reader_suits_24 M Q))
theorem b_Reader_suits {d : Nat} {l0 : Nat} {l1 : Int32} {l2 : Nat} {l3 : Nat} {M : eM} {Q : Int32 → eM → Prop} (hd : 1 ≤ d) (h : w_Reader_suits l0 l1 l2 l3 M Q) : e_CI 80 d 0 0 [.ref l0, .int l1, .ref l2, .ref l3] M Q := by
  unfold w_Reader_suits at h
  show e_E 80 d 0 0 0 [(0, .ref l0), (1, .int l1), (2, .ref l2), (3, .ref l3)] [] M (e_QI Q)
  refine r_aload_n (kd80 rfl) rfl rfl ?_
  obtain ⟨g, h⟩ := h
  refine r_get0 (kd80 rfl) (by decide) rfl g rfl ?_
  refine r_aload_n (kd80 rfl) rfl rfl ?_
  obtain ⟨g, h⟩ := h
  refine r_get0 (kd80 rfl) (by decide) rfl g rfl ?_
  refine r_iconst (kd80 rfl) (y := 1) (by decide) rfl ?_
  refine r_iadd (kd80 rfl) rfl ?_
  refine r_icmp_ne (kd80 rfl) rfl (fun c => ?_) (fun c => ?_)
  · have h := h.1 c
    exact (b_Reader_suits_24 hd h).less e_sn
  · have h := h.2 c
    refine r_aload_n (kd80 rfl) rfl rfl ?_
    obtain ⟨g, h⟩ := h
    refine r_get0 (kd80 rfl) (by decide) rfl g rfl ?_
    refine r_aload_n (kd80 rfl) rfl rfl ?_
    obtain ⟨g, h⟩ := h
    refine r_get0 (kd80 rfl) (by decide) rfl g rfl ?_
    refine r_icmp_eq (kd80 rfl) rfl (fun c => ?_) (fun c => ?_)
    · have h := h.1 c
      refine r_aload_n (kd80 rfl) rfl rfl ?_
      obtain ⟨g, h⟩ := h
      refine r_get2 (kd80 rfl) (by decide) rfl g rfl ?_
      refine r_iconst (kd80 rfl) (y := 0) (by decide) rfl ?_
      obtain ⟨g, h⟩ := h
      refine r_iaload (kd80 rfl) g rfl ?_
      refine r_istore (kd80 rfl) L80 (by decide) rfl rfl ?_
      refine r_iload (kd80 rfl) rfl rfl ?_
      refine r_bipush (kd80 rfl) (y := 16) (by decide) rfl ?_
      refine r_icmp_lt (kd80 rfl) rfl (fun c => ?_) (fun c => ?_)
      · have h := h.1 c
        exact (b_Reader_suits_57 hd h).less e_sn
      · have h := h.2 c
        refine r_aload_n (kd80 rfl) rfl rfl ?_
        obtain ⟨g, h⟩ := h
        refine r_get2 (kd80 rfl) (by decide) rfl g rfl ?_
        refine r_iload_n (kd80 rfl) rfl rfl ?_
        refine r_iload (kd80 rfl) rfl rfl ?_
        refine r_bipush (kd80 rfl) (y := 16) (by decide) rfl ?_
        refine r_isub (kd80 rfl) rfl ?_
        obtain ⟨g, h⟩ := h
        refine r_callVI (d' := d - 1) (by omega) (kd80 rfl) (by decide) rfl rfl rfl rfl (Nat.le_of_ble_eq_true rfl) rfl L66 (Nat.le_of_ble_eq_true rfl) (Nat.le_of_ble_eq_true rfl) g (Nat.zero_le _) (Nat.zero_le _) rfl rfl rfl (b_Program_isOrBelow (by omega) h) (fun x1 M1 h => ?_)
        refine r_if_ne (kd80 rfl) rfl (fun c => ?_) (fun c => ?_)
        · have h := h.1 c
          refine r_iconst (kd80 rfl) (y := 0) (by decide) rfl ?_
          refine r_istore (kd80 rfl) L80 (by decide) rfl rfl ?_
          obtain ⟨n, h⟩ := h
          exact (b_Reader_suits_62 hd n _ _ _ _ h).less (e_sc (List.mem_of_getElem? (i := 4) rfl) (e_sc (List.mem_of_getElem? (i := 5) rfl) (e_sc (List.mem_of_getElem? (i := 0) rfl) e_sn)))
        · have h := h.2 c
          exact (b_Reader_suits_57 hd h).less e_sn
    · have h := h.2 c
      exact (b_Reader_suits_24 hd h).less e_sn
/-- TierMill$Reader.readTable()V -/
theorem kd79 {pc : Nat} {q : eI} (h : e_d79.lookup pc = some q) : e_dec 79 pc = some q := h
theorem L79 : (e_m 79).2.2.1 = 5 := rfl
theorem R79 : (e_m 79).2.2.2.1 = none := rfl
def w_Reader_readTable_120 (l0 : Nat) (l1 : Int32) (l2 : Int32) (l3 : Int32) (M : eM) (Q : eM → Prop) (k2 : Nat → Int32 → eM → Prop) (k15 : Nat → Int32 → Int32 → eM → Prop) : Prop := e_ob M l0 7 ∧ e_ob M (gr M l0 0) 6 ∧ e_ar M (gr M (gr M l0 0) 11) 20 ((l1 * 8) + l2) ∧ ∀ M8 : eM, M8 = e_si M (gr M (gr M l0 0) 11) ((l1 * 8) + l2).toNatClampNeg l3 → k15 l0 l1 (l2 + 1) M8
theorem b_Reader_readTable_120 {d : Nat} {l0 : Nat} {l1 : Int32} {l2 : Int32} {l3 : Int32} {M : eM} {Q : eM → Prop} {k2 : Nat → Int32 → eM → Prop} {k15 : Nat → Int32 → Int32 → eM → Prop} (hd : 2 ≤ d) (hk2 : ∀ (l0 : Nat) (l1 : Int32) (M : eM), k2 l0 l1 M → e_E 79 d 0 0 2 [(0, .ref l0), (1, .int l1)] [] M (e_QV Q)) (hk15 : ∀ (l0 : Nat) (l1 : Int32) (l2 : Int32) (M : eM), k15 l0 l1 l2 M → e_E 79 d 0 0 15 [(0, .ref l0), (1, .int l1), (2, .int l2)] [] M (e_QV Q)) (h : w_Reader_readTable_120 l0 l1 l2 l3 M Q k2 k15) : e_E 79 d 0 0 120 [(0, .ref l0), (1, .int l1), (2, .int l2), (3, .int l3)] [] M (e_QV Q) := by
  unfold w_Reader_readTable_120 at h
  refine r_aload_n (kd79 rfl) rfl rfl ?_
  obtain ⟨g, h⟩ := h
  refine r_get2 (kd79 rfl) (by decide) rfl g rfl ?_
  obtain ⟨g, h⟩ := h
  refine r_get2 (kd79 rfl) (by decide) rfl g rfl ?_
  refine r_iload_n (kd79 rfl) rfl rfl ?_
  refine r_bipush (kd79 rfl) (y := 8) (by decide) rfl ?_
  refine r_imul (kd79 rfl) rfl ?_
  refine r_iload_n (kd79 rfl) rfl rfl ?_
  refine r_iadd (kd79 rfl) rfl ?_
  refine r_iload_n (kd79 rfl) rfl rfl ?_
  obtain ⟨g, h⟩ := h
  have h := h _ rfl
  refine r_iastore (kd79 rfl) g rfl ?_
  refine r_iinc (kd79 rfl) rfl (y := 1) (by decide) L79 (by decide) rfl rfl ?_
  refine r_goto (kd79 rfl) ?_
  exact (hk15 _ _ _ _ h).less (e_sc (List.mem_of_getElem? (i := 1) rfl) (e_sc (List.mem_of_getElem? (i := 2) rfl) (e_sc (List.mem_of_getElem? (i := 0) rfl) e_sn)))
def w_Reader_readTable_82 (l0 : Nat) (l1 : Int32) (l2 : Int32) (l3 : Int32) (M : eM) (Q : eM → Prop) (k2 : Nat → Int32 → eM → Prop) (k15 : Nat → Int32 → Int32 → eM → Prop) : Prop := e_ob M l0 7 ∧ e_ob M (gr M l0 0) 6 ∧ e_ai M (gr M (gr M l0 0) 3) l1 ∧ (¬ l3 = (-1) → w_Reader_readTable_120 l0 l1 l2 l3 M Q k2 k15) ∧ (l3 = (-1) → ((gi M (gr M (gr M l0 0) 3) l1.toNatClampNeg) = (-1) → w_Reader_readTable_120 l0 l1 l2 l3 M Q k2 k15) ∧ (¬ (gi M (gr M (gr M l0 0) 3) l1.toNatClampNeg) = (-1) → e_ob M l0 7 ∧ e_ob M (gr M l0 0) 6 ∧ e_ai M (gr M (gr M l0 0) 11) (((gi M (gr M (gr M l0 0) 3) l1.toNatClampNeg) * 8) + l2) ∧ w_Reader_readTable_120 l0 l1 l2 (gi M (gr M (gr M l0 0) 11) (((gi M (gr M (gr M l0 0) 3) l1.toNatClampNeg) * 8) + l2).toNatClampNeg) M Q k2 k15))
theorem b_Reader_readTable_82 {d : Nat} {l0 : Nat} {l1 : Int32} {l2 : Int32} {l3 : Int32} {M : eM} {Q : eM → Prop} {k2 : Nat → Int32 → eM → Prop} {k15 : Nat → Int32 → Int32 → eM → Prop} (hd : 2 ≤ d) (hk2 : ∀ (l0 : Nat) (l1 : Int32) (M : eM), k2 l0 l1 M → e_E 79 d 0 0 2 [(0, .ref l0), (1, .int l1)] [] M (e_QV Q)) (hk15 : ∀ (l0 : Nat) (l1 : Int32) (l2 : Int32) (M : eM), k15 l0 l1 l2 M → e_E 79 d 0 0 15 [(0, .ref l0), (1, .int l1), (2, .int l2)] [] M (e_QV Q)) (h : w_Reader_readTable_82 l0 l1 l2 l3 M Q k2 k15) : e_E 79 d 0 0 82 [(0, .ref l0), (1, .int l1), (2, .int l2), (3, .int l3)] [] M (e_QV Q) := by
  unfold w_Reader_readTable_82 at h
  refine r_aload_n (kd79 rfl) rfl rfl ?_
  obtain ⟨g, h⟩ := h
  refine r_get2 (kd79 rfl) (by decide) rfl g rfl ?_
  obtain ⟨g, h⟩ := h
  refine r_get2 (kd79 rfl) (by decide) rfl g rfl ?_
  refine r_iload_n (kd79 rfl) rfl rfl ?_
  obtain ⟨g, h⟩ := h
  refine r_iaload (kd79 rfl) g rfl ?_
  refine r_istore (kd79 rfl) L79 (by decide) rfl rfl ?_
  refine r_iload_n (kd79 rfl) rfl rfl ?_
  refine r_iconst (kd79 rfl) (y := (-1)) (by decide) rfl ?_
  refine r_icmp_ne (kd79 rfl) rfl (fun c => ?_) (fun c => ?_)
  · have h := h.1 c
    exact (b_Reader_readTable_120 hd hk2 hk15 h).less (e_sc (List.mem_of_getElem? (i := 1) rfl) (e_sc (List.mem_of_getElem? (i := 2) rfl) (e_sc (List.mem_of_getElem? (i := 3) rfl) (e_sc (List.mem_of_getElem? (i := 4) rfl) e_sn))))
  · have h := h.2 c
    refine r_iload (kd79 rfl) rfl rfl ?_
    refine r_iconst (kd79 rfl) (y := (-1)) (by decide) rfl ?_
    refine r_icmp_eq (kd79 rfl) rfl (fun c => ?_) (fun c => ?_)
    · have h := h.1 c
      exact (b_Reader_readTable_120 hd hk2 hk15 h).less (e_sc (List.mem_of_getElem? (i := 1) rfl) (e_sc (List.mem_of_getElem? (i := 2) rfl) (e_sc (List.mem_of_getElem? (i := 3) rfl) (e_sc (List.mem_of_getElem? (i := 4) rfl) e_sn))))
    · have h := h.2 c
      refine r_aload_n (kd79 rfl) rfl rfl ?_
      obtain ⟨g, h⟩ := h
      refine r_get2 (kd79 rfl) (by decide) rfl g rfl ?_
      obtain ⟨g, h⟩ := h
      refine r_get2 (kd79 rfl) (by decide) rfl g rfl ?_
      refine r_iload (kd79 rfl) rfl rfl ?_
      refine r_bipush (kd79 rfl) (y := 8) (by decide) rfl ?_
      refine r_imul (kd79 rfl) rfl ?_
      refine r_iload_n (kd79 rfl) rfl rfl ?_
      refine r_iadd (kd79 rfl) rfl ?_
      obtain ⟨g, h⟩ := h
      refine r_iaload (kd79 rfl) g rfl ?_
      refine r_istore_n (kd79 rfl) L79 (by decide) rfl rfl ?_
      exact (b_Reader_readTable_120 hd hk2 hk15 h).less (e_sc (List.mem_of_getElem? (i := 2) rfl) (e_sc (List.mem_of_getElem? (i := 3) rfl) (e_sc (List.mem_of_getElem? (i := 4) rfl) (e_sc (List.mem_of_getElem? (i := 0) rfl) e_sn))))
def w_Reader_readTable_15 : Nat → Nat → Int32 → Int32 → eM → (eM → Prop) → (Nat → Int32 → eM → Prop) → Prop
  | 0, _, _, _, _, _, _ => False
  | n + 1, l0, l1, l2, M, Q, k2 => e_ob M l0 7 ∧ e_ob M (gr M l0 0) 6 ∧ ((gi M (gr M l0 0) 7) ≤ l2 → k2 l0 (l1 + 1) M) ∧ (¬ (gi M (gr M l0 0) 7) ≤ l2 → e_ob M l0 7 ∧ e_ob M (gr M l0 0) 6 ∧ e_ob M l0 7 ∧ w_Reader_take l0 0 (gi M (gr M l0 0) 9) M (fun (v4 : Int32) (M3 : eM) => ((v4 - 1) = (-1) → w_Reader_readTable_82 l0 l1 l2 (v4 - 1) M3 Q k2 (fun l0 l1 l2 M => w_Reader_readTable_15 n l0 l1 l2 M Q k2)) ∧ (¬ (v4 - 1) = (-1) → e_ob M3 l0 7 ∧ e_ob M3 (gr M3 l0 0) 6 ∧ (e_ar M3 (gr M3 (gr M3 l0 0) 8) 23 l2 ∨ e_ar M3 (gr M3 (gr M3 l0 0) 8) 24 l2) ∧ e_ob M3 l0 7 ∧ e_ob M3 (gr M3 l0 0) 6 ∧ (e_ar M3 (gr M3 (gr M3 l0 0) 10) 23 (v4 - 1) ∨ e_ar M3 (gr M3 (gr M3 l0 0) 10) 24 (v4 - 1)) ∧ e_ob M3 l0 7 ∧ w_Reader_suits l0 l1 (gr M3 (gr M3 (gr M3 l0 0) 8) l2.toNatClampNeg) (gr M3 (gr M3 (gr M3 l0 0) 10) (v4 - 1).toNatClampNeg) M3 (fun (v6 : Int32) (M5 : eM) => (¬ v6 = 0 → w_Reader_readTable_82 l0 l1 l2 (v4 - 1) M5 Q k2 (fun l0 l1 l2 M => w_Reader_readTable_15 n l0 l1 l2 M Q k2)) ∧ (v6 = 0 → e_ob M5 l0 7 ∧ e_ob M5 l0 7 ∧ ∀ M7 : eM, M7 = e_si M5 l0 2 ((gi M5 l0 1) - 1) → w_Reader_readTable_82 l0 l1 l2 (v4 - 1) M7 Q k2 (fun l0 l1 l2 M => w_Reader_readTable_15 n l0 l1 l2 M Q k2))))))
theorem b_Reader_readTable_15 {d : Nat} {Q : eM → Prop} {k2 : Nat → Int32 → eM → Prop} (hd : 2 ≤ d) (n : Nat) (hk2 : ∀ (l0 : Nat) (l1 : Int32) (M : eM), k2 l0 l1 M → e_E 79 d 0 0 2 [(0, .ref l0), (1, .int l1)] [] M (e_QV Q)) : ∀ (l0 : Nat) (l1 : Int32) (l2 : Int32) (M : eM), w_Reader_readTable_15 n l0 l1 l2 M Q k2 → e_E 79 d 0 0 15 [(0, .ref l0), (1, .int l1), (2, .int l2)] [] M (e_QV Q) := by
  induction n with
  | zero => intro l0 l1 l2 M h; exact False.elim h
  | succ n ih =>
    intro l0 l1 l2 M h
    have hk15 := ih
    refine r_iload_n (kd79 rfl) rfl rfl ?_
    refine r_aload_n (kd79 rfl) rfl rfl ?_
    obtain ⟨g, h⟩ := h
    refine r_get2 (kd79 rfl) (by decide) rfl g rfl ?_
    obtain ⟨g, h⟩ := h
    refine r_get0 (kd79 rfl) (by decide) rfl g rfl ?_
    refine r_icmp_ge (kd79 rfl) rfl (fun c => ?_) (fun c => ?_)
    · have h := h.1 c
      refine r_iinc (kd79 rfl) rfl (y := 1) (by decide) L79 (by decide) rfl rfl ?_
      refine r_goto (kd79 rfl) ?_
      exact (hk2 _ _ _ h).less (e_sc (List.mem_of_getElem? (i := 1) rfl) (e_sc (List.mem_of_getElem? (i := 0) rfl) e_sn))
    · have h := h.2 c
      refine r_aload_n (kd79 rfl) rfl rfl ?_
      refine r_iconst (kd79 rfl) (y := 0) (by decide) rfl ?_
      refine r_aload_n (kd79 rfl) rfl rfl ?_
      obtain ⟨g, h⟩ := h
      refine r_get2 (kd79 rfl) (by decide) rfl g rfl ?_
      obtain ⟨g, h⟩ := h
      refine r_get0 (kd79 rfl) (by decide) rfl g rfl ?_
      obtain ⟨g, h⟩ := h
      refine r_callVI (d' := d - 1) (by omega) (kd79 rfl) (by decide) rfl rfl rfl rfl (Nat.le_of_ble_eq_true rfl) rfl L73 (Nat.le_of_ble_eq_true rfl) (Nat.le_of_ble_eq_true rfl) g (Nat.zero_le _) (Nat.zero_le _) rfl rfl rfl (b_Reader_take (by omega) h) (fun x1 M1 h => ?_)
      refine r_iconst (kd79 rfl) (y := 1) (by decide) rfl ?_
      refine r_isub (kd79 rfl) rfl ?_
      refine r_istore_n (kd79 rfl) L79 (by decide) rfl rfl ?_
      refine r_iload_n (kd79 rfl) rfl rfl ?_
      refine r_iconst (kd79 rfl) (y := (-1)) (by decide) rfl ?_
      refine r_icmp_eq (kd79 rfl) rfl (fun c => ?_) (fun c => ?_)
      · have h := h.1 c
        exact (b_Reader_readTable_82 hd hk2 hk15 h).less (e_sc (List.mem_of_getElem? (i := 1) rfl) (e_sc (List.mem_of_getElem? (i := 2) rfl) (e_sc (List.mem_of_getElem? (i := 3) rfl) (e_sc (List.mem_of_getElem? (i := 0) rfl) e_sn))))
      · have h := h.2 c
        refine r_aload_n (kd79 rfl) rfl rfl ?_
        refine r_iload_n (kd79 rfl) rfl rfl ?_
        refine r_aload_n (kd79 rfl) rfl rfl ?_
        obtain ⟨g, h⟩ := h
        refine r_get2 (kd79 rfl) (by decide) rfl g rfl ?_
        obtain ⟨g, h⟩ := h
        refine r_get2 (kd79 rfl) (by decide) rfl g rfl ?_
        refine r_iload_n (kd79 rfl) rfl rfl ?_
        obtain ⟨g, h⟩ := h
        refine r_aaload (kd79 rfl) g rfl ?_
        refine r_aload_n (kd79 rfl) rfl rfl ?_
        obtain ⟨g, h⟩ := h
        refine r_get2 (kd79 rfl) (by decide) rfl g rfl ?_
        obtain ⟨g, h⟩ := h
        refine r_get2 (kd79 rfl) (by decide) rfl g rfl ?_
        refine r_iload_n (kd79 rfl) rfl rfl ?_
        obtain ⟨g, h⟩ := h
        refine r_aaload (kd79 rfl) g rfl ?_
        obtain ⟨g, h⟩ := h
        refine r_callVI (d' := d - 1) (by omega) (kd79 rfl) (by decide) rfl rfl rfl rfl (Nat.le_of_ble_eq_true rfl) rfl L80 (Nat.le_of_ble_eq_true rfl) (Nat.le_of_ble_eq_true rfl) g (Nat.zero_le _) (Nat.zero_le _) rfl rfl rfl (b_Reader_suits (by omega) h) (fun x1 M1 h => ?_)
        refine r_if_ne (kd79 rfl) rfl (fun c => ?_) (fun c => ?_)
        · have h := h.1 c
          exact (b_Reader_readTable_82 hd hk2 hk15 h).less (e_sc (List.mem_of_getElem? (i := 1) rfl) (e_sc (List.mem_of_getElem? (i := 2) rfl) (e_sc (List.mem_of_getElem? (i := 3) rfl) (e_sc (List.mem_of_getElem? (i := 0) rfl) e_sn))))
        · have h := h.2 c
          refine r_aload_n (kd79 rfl) rfl rfl ?_
          refine r_aload_n (kd79 rfl) rfl rfl ?_
          obtain ⟨g, h⟩ := h
          refine r_get0 (kd79 rfl) (by decide) rfl g rfl ?_
          refine r_iconst (kd79 rfl) (y := 1) (by decide) rfl ?_
          refine r_isub (kd79 rfl) rfl ?_
          obtain ⟨g, h⟩ := h
          have h := h _ rfl
          refine r_put0 (kd79 rfl) (by decide) rfl g rfl ?_
          exact (b_Reader_readTable_82 hd hk2 hk15 h).less (e_sc (List.mem_of_getElem? (i := 1) rfl) (e_sc (List.mem_of_getElem? (i := 2) rfl) (e_sc (List.mem_of_getElem? (i := 3) rfl) (e_sc (List.mem_of_getElem? (i := 0) rfl) e_sn))))
def w_Reader_readTable_2 : Nat → Nat → Int32 → eM → (eM → Prop) → Prop
  | 0, _, _, _, _ => False
  | n + 1, l0, l1, M, Q => e_ob M l0 7 ∧ e_ob M (gr M l0 0) 6 ∧ ((gi M (gr M l0 0) 2) ≤ l1 → Q M) ∧ (¬ (gi M (gr M l0 0) 2) ≤ l1 → ∃ n2 : Nat, w_Reader_readTable_15 n2 l0 l1 0 M Q (fun l0 l1 M => w_Reader_readTable_2 n l0 l1 M Q ))
theorem b_Reader_readTable_2 {d : Nat} {Q : eM → Prop} (hd : 2 ≤ d) (n : Nat) : ∀ (l0 : Nat) (l1 : Int32) (M : eM), w_Reader_readTable_2 n l0 l1 M Q → e_E 79 d 0 0 2 [(0, .ref l0), (1, .int l1)] [] M (e_QV Q) := by
  induction n with
  | zero => intro l0 l1 M h; exact False.elim h
  | succ n ih =>
    intro l0 l1 M h
    have hk2 := ih
    refine r_iload_n (kd79 rfl) rfl rfl ?_
    refine r_aload_n (kd79 rfl) rfl rfl ?_
    obtain ⟨g, h⟩ := h
    refine r_get2 (kd79 rfl) (by decide) rfl g rfl ?_
    obtain ⟨g, h⟩ := h
    refine r_get0 (kd79 rfl) (by decide) rfl g rfl ?_
    refine r_icmp_ge (kd79 rfl) rfl (fun c => ?_) (fun c => ?_)
    · have h := h.1 c
      exact r_return (kd79 rfl) R79 h
    · have h := h.2 c
      refine r_iconst (kd79 rfl) (y := 0) (by decide) rfl ?_
      refine r_istore_n (kd79 rfl) L79 (by decide) rfl rfl ?_
      obtain ⟨n, h⟩ := h
      exact (b_Reader_readTable_15 hd n hk2 _ _ _ _ h).less (e_sc (List.mem_of_getElem? (i := 1) rfl) (e_sc (List.mem_of_getElem? (i := 2) rfl) (e_sc (List.mem_of_getElem? (i := 0) rfl) e_sn)))
def w_Reader_readTable (l0 : Nat) (M : eM) (Q : eM → Prop) : Prop := ∃ n1 : Nat, w_Reader_readTable_2 n1 l0 0 M Q
theorem b_Reader_readTable {d : Nat} {l0 : Nat} {M : eM} {Q : eM → Prop} (hd : 2 ≤ d) (h : w_Reader_readTable l0 M Q) : e_CV 79 d 0 0 [.ref l0] M Q := by
  unfold w_Reader_readTable at h
  show e_E 79 d 0 0 0 [(0, .ref l0)] [] M (e_QV Q)
  refine r_iconst (kd79 rfl) (y := 0) (by decide) rfl ?_
  refine r_istore_n (kd79 rfl) L79 (by decide) rfl rfl ?_
  obtain ⟨n, h⟩ := h
  exact (b_Reader_readTable_2 hd n _ _ _ h).less (e_sc (List.mem_of_getElem? (i := 1) rfl) (e_sc (List.mem_of_getElem? (i := 0) rfl) e_sn))
/-- TierMill$Reader.firstWrong(LTierMill$Program;)I -/
theorem kd72 {pc : Nat} {q : eI} (h : e_d72.lookup pc = some q) : e_dec 72 pc = some q := h
theorem L72 : (e_m 72).2.2.1 = 2 := rfl
theorem R72 : (e_m 72).2.2.2.1 = (some .int) := rfl
def w_Reader_firstWrong_61 (l0 : Nat) (M : eM) (Q : Int32 → eM → Prop) : Prop := e_ob M l0 7 ∧ Q (gi M l0 2) M
theorem b_Reader_firstWrong_61 {d : Nat} {l0 : Nat} {M : eM} {Q : Int32 → eM → Prop} (hd : 4 ≤ d) (h : w_Reader_firstWrong_61 l0 M Q ) : e_E 72 d 0 0 61 [(0, .ref l0)] [] M (e_QI Q) := by
  unfold w_Reader_firstWrong_61 at h
  refine r_aload_n (kd72 rfl) rfl rfl ?_
  obtain ⟨g, h⟩ := h
  refine r_get0 (kd72 rfl) (by decide) rfl g rfl ?_
  exact r_ireturn (kd72 rfl) R72 h
def w_Reader_firstWrong (l0 : Nat) (l1 : Nat) (M : eM) (Q : Int32 → eM → Prop) : Prop := e_ob M l0 7 ∧ ∀ M1 : eM, M1 = e_sr M l0 0 l1 → e_ob M1 l0 7 ∧ ∀ M2 : eM, M2 = e_si M1 l0 1 0 → e_ob M2 l0 7 ∧ ∀ M3 : eM, M3 = e_si M2 l0 2 (-1) → e_ob M3 l0 7 ∧ w_Reader_readClasses l0 M3 (fun (M4 : eM) => e_ob M4 l0 7 ∧ w_Reader_readSelectors l0 M4 (fun (M5 : eM) => e_ob M5 l0 7 ∧ w_Reader_readMethods l0 M5 (fun (M6 : eM) => e_ob M6 l0 7 ∧ w_Reader_readTable l0 M6 (fun (M7 : eM) => e_ob M7 l0 7 ∧ (¬ (gi M7 l0 2) = (-1) → w_Reader_firstWrong_61 l0 M7 Q) ∧ ((gi M7 l0 2) = (-1) → e_ob M7 l0 7 ∧ e_ob M7 l0 7 ∧ e_ob M7 (gr M7 l0 0) 6 ∧ ((gi M7 (gr M7 l0 0) 1) ≤ (gi M7 l0 1) → w_Reader_firstWrong_61 l0 M7 Q) ∧ (¬ (gi M7 (gr M7 l0 0) 1) ≤ (gi M7 l0 1) → e_ob M7 l0 7 ∧ e_ob M7 l0 7 ∧ ∀ M8 : eM, M8 = e_si M7 l0 2 (gi M7 l0 1) → w_Reader_firstWrong_61 l0 M8 Q))))))
theorem b_Reader_firstWrong {d : Nat} {l0 : Nat} {l1 : Nat} {M : eM} {Q : Int32 → eM → Prop} (hd : 4 ≤ d) (h : w_Reader_firstWrong l0 l1 M Q) : e_CI 72 d 0 0 [.ref l0, .ref l1] M Q := by
  unfold w_Reader_firstWrong at h
  show e_E 72 d 0 0 0 [(0, .ref l0), (1, .ref l1)] [] M (e_QI Q)
  refine r_aload_n (kd72 rfl) rfl rfl ?_
  refine r_aload_n (kd72 rfl) rfl rfl ?_
  obtain ⟨g, h⟩ := h
  have h := h _ rfl
  refine r_put2 (kd72 rfl) (by decide) rfl g rfl ?_
  refine r_aload_n (kd72 rfl) rfl rfl ?_
  refine r_iconst (kd72 rfl) (y := 0) (by decide) rfl ?_
  obtain ⟨g, h⟩ := h
  have h := h _ rfl
  refine r_put0 (kd72 rfl) (by decide) rfl g rfl ?_
  refine r_aload_n (kd72 rfl) rfl rfl ?_
  refine r_iconst (kd72 rfl) (y := (-1)) (by decide) rfl ?_
  obtain ⟨g, h⟩ := h
  have h := h _ rfl
  refine r_put0 (kd72 rfl) (by decide) rfl g rfl ?_
  refine r_aload_n (kd72 rfl) rfl rfl ?_
  obtain ⟨g, h⟩ := h
  refine r_callVV (d' := d - 1) (by omega) (kd72 rfl) (by decide) rfl rfl rfl rfl (Nat.le_of_ble_eq_true rfl) rfl L75 (Nat.le_of_ble_eq_true rfl) (Nat.le_of_ble_eq_true rfl) g (Nat.zero_le _) (Nat.zero_le _) rfl rfl rfl (b_Reader_readClasses (by omega) h) (fun M1 h => ?_)
  refine r_aload_n (kd72 rfl) rfl rfl ?_
  obtain ⟨g, h⟩ := h
  refine r_callVV (d' := d - 1) (by omega) (kd72 rfl) (by decide) rfl rfl rfl rfl (Nat.le_of_ble_eq_true rfl) rfl L76 (Nat.le_of_ble_eq_true rfl) (Nat.le_of_ble_eq_true rfl) g (Nat.zero_le _) (Nat.zero_le _) rfl rfl rfl (b_Reader_readSelectors (by omega) h) (fun M1 h => ?_)
  refine r_aload_n (kd72 rfl) rfl rfl ?_
  obtain ⟨g, h⟩ := h
  refine r_callVV (d' := d - 1) (by omega) (kd72 rfl) (by decide) rfl rfl rfl rfl (Nat.le_of_ble_eq_true rfl) rfl L78 (Nat.le_of_ble_eq_true rfl) (Nat.le_of_ble_eq_true rfl) g (Nat.zero_le _) (Nat.zero_le _) rfl rfl rfl (b_Reader_readMethods (by omega) h) (fun M1 h => ?_)
  refine r_aload_n (kd72 rfl) rfl rfl ?_
  obtain ⟨g, h⟩ := h
  refine r_callVV (d' := d - 1) (by omega) (kd72 rfl) (by decide) rfl rfl rfl rfl (Nat.le_of_ble_eq_true rfl) rfl L79 (Nat.le_of_ble_eq_true rfl) (Nat.le_of_ble_eq_true rfl) g (Nat.zero_le _) (Nat.zero_le _) rfl rfl rfl (b_Reader_readTable (by omega) h) (fun M1 h => ?_)
  refine r_aload_n (kd72 rfl) rfl rfl ?_
  obtain ⟨g, h⟩ := h
  refine r_get0 (kd72 rfl) (by decide) rfl g rfl ?_
  refine r_iconst (kd72 rfl) (y := (-1)) (by decide) rfl ?_
  refine r_icmp_ne (kd72 rfl) rfl (fun c => ?_) (fun c => ?_)
  · have h := h.1 c
    exact (b_Reader_firstWrong_61 hd h).less (e_sc (List.mem_of_getElem? (i := 0) rfl) e_sn)
  · have h := h.2 c
    refine r_aload_n (kd72 rfl) rfl rfl ?_
    obtain ⟨g, h⟩ := h
    refine r_get0 (kd72 rfl) (by decide) rfl g rfl ?_
    refine r_aload_n (kd72 rfl) rfl rfl ?_
    obtain ⟨g, h⟩ := h
    refine r_get2 (kd72 rfl) (by decide) rfl g rfl ?_
    obtain ⟨g, h⟩ := h
    refine r_get0 (kd72 rfl) (by decide) rfl g rfl ?_
    refine r_icmp_ge (kd72 rfl) rfl (fun c => ?_) (fun c => ?_)
    · have h := h.1 c
      exact (b_Reader_firstWrong_61 hd h).less (e_sc (List.mem_of_getElem? (i := 0) rfl) e_sn)
    · have h := h.2 c
      refine r_aload_n (kd72 rfl) rfl rfl ?_
      refine r_aload_n (kd72 rfl) rfl rfl ?_
      obtain ⟨g, h⟩ := h
      refine r_get0 (kd72 rfl) (by decide) rfl g rfl ?_
      obtain ⟨g, h⟩ := h
      have h := h _ rfl
      refine r_put0 (kd72 rfl) (by decide) rfl g rfl ?_
      exact (b_Reader_firstWrong_61 hd h).less (e_sc (List.mem_of_getElem? (i := 0) rfl) e_sn)
/-- TierMill$Tiers.planOfMethod(I)LTierMill$Plan; -/
theorem kd86 {pc : Nat} {q : eI} (h : e_d86.lookup pc = some q) : e_dec 86 pc = some q := h
theorem L86 : (e_m 86).2.2.1 = 2 := rfl
theorem R86 : (e_m 86).2.2.2.1 = (some (.object "TierMill$Plan")) := rfl
def w_Tiers_planOfMethod (l0 : Nat) (l1 : Int32) (M : eM) (Q : Nat → eM → Prop) : Prop := e_ob M l0 9 ∧ e_ai M (gr M l0 8) l1 ∧ e_ob M l0 9 ∧ w_Tiers_planNumbered l0 (gi M (gr M l0 8) l1.toNatClampNeg) M (fun (v2 : Nat) (M1 : eM) => Q v2 M1)
theorem b_Tiers_planOfMethod {d : Nat} {l0 : Nat} {l1 : Int32} {M : eM} {Q : Nat → eM → Prop} (hd : 1 ≤ d) (h : w_Tiers_planOfMethod l0 l1 M Q) : e_CR 86 d 0 0 [.ref l0, .int l1] M Q := by
  unfold w_Tiers_planOfMethod at h
  show e_E 86 d 0 0 0 [(0, .ref l0), (1, .int l1)] [] M (e_QR Q)
  refine r_aload_n (kd86 rfl) rfl rfl ?_
  refine r_aload_n (kd86 rfl) rfl rfl ?_
  obtain ⟨g, h⟩ := h
  refine r_get2 (kd86 rfl) (by decide) rfl g rfl ?_
  refine r_iload_n (kd86 rfl) rfl rfl ?_
  obtain ⟨g, h⟩ := h
  refine r_iaload (kd86 rfl) g rfl ?_
  obtain ⟨g, h⟩ := h
  refine r_callVR (d' := d - 1) (by omega) (kd86 rfl) (by decide) rfl rfl rfl rfl (Nat.le_of_ble_eq_true rfl) rfl L87 (Nat.le_of_ble_eq_true rfl) (Nat.le_of_ble_eq_true rfl) g (Nat.zero_le _) (Nat.zero_le _) rfl rfl rfl (b_Tiers_planNumbered (by omega) h) (fun x1 M1 h => ?_)
  exact r_areturn (kd86 rfl) R86 (by first | exact Or.inl ⟨_, rfl⟩ | exact Or.inr ⟨_, rfl⟩) h
/-- TierMill$Verifier.<init>()V -/
theorem kd95 {pc : Nat} {q : eI} (h : e_d95.lookup pc = some q) : e_dec 95 pc = some q := h
theorem L95 : (e_m 95).2.2.1 = 1 := rfl
theorem R95 : (e_m 95).2.2.2.1 = none := rfl
def w_Verifier_init (kc ks : Nat) (l0 : Nat) (M : eM) (Q : eM → Prop) : Prop := e_c0 ≤ l0 ∧ ¬ (1500 : Int32) < 0 ∧ (1500 : Int32).toNatClampNeg ≤ 400000 ∧ 1 ≤ kc ∧ (1500 : Int32).toNatClampNeg ≤ ks ∧ ∀ M1 : eM, M1 = e_new M 20 (1500 : Int32).toNatClampNeg → e_ob M1 l0 10 ∧ ∀ M2 : eM, M2 = e_sr M1 l0 2 M.1 → Q M2
theorem b_Verifier_init {d : Nat} {kc ks : Nat} {l0 : Nat} {M : eM} {Q : eM → Prop} (hd : 0 ≤ d) (h : w_Verifier_init kc ks l0 M Q) : e_CV 95 d kc ks [.ref l0] M Q := by
  unfold w_Verifier_init at h
  show e_E 95 d kc ks 0 [(0, .ref l0)] [] M (e_QV Q)
  refine r_aload_n (kd95 rfl) rfl rfl ?_
  obtain ⟨g, h⟩ := h
  refine r_objInit (kd95 rfl) g (Nat.le_of_ble_eq_true rfl) rfl ?_
  refine r_aload_n (kd95 rfl) rfl rfl ?_
  refine r_sipush (kd95 rfl) (y := 1500) (by decide) rfl ?_
  obtain ⟨g0, g3, g1, g2, h⟩ := h
  have h := h _ rfl
  refine r_newarray (kd95 rfl) (by decide) g0 g3 g1 g2 rfl ?_
  obtain ⟨g, h⟩ := h
  have h := h _ rfl
  refine r_put2 (kd95 rfl) (by decide) rfl g rfl ?_
  exact r_return (kd95 rfl) R95 h
/-- TierMill$Verifier.dropKind()V -/
theorem kd100 {pc : Nat} {q : eI} (h : e_d100.lookup pc = some q) : e_dec 100 pc = some q := h
theorem L100 : (e_m 100).2.2.1 = 1 := rfl
theorem R100 : (e_m 100).2.2.2.1 = none := rfl
def w_Verifier_dropKind (l0 : Nat) (M : eM) (Q : eM → Prop) : Prop := e_ob M l0 10 ∧ e_ob M l0 10 ∧ ∀ M1 : eM, M1 = e_si M l0 6 ((gi M l0 6) - 1) → e_ob M1 l0 10 ∧ e_ob M1 l0 10 ∧ e_ob M1 l0 10 ∧ ∀ M2 : eM, M2 = e_sl M1 l0 8 ((gl M1 l0 8) &&& ((255 <<< ((8 * (gi M1 l0 6)).toInt64 &&& 63)) ^^^ (-1))) → Q M2
theorem b_Verifier_dropKind {d : Nat} {l0 : Nat} {M : eM} {Q : eM → Prop} (hd : 0 ≤ d) (h : w_Verifier_dropKind l0 M Q) : e_CV 100 d 0 0 [.ref l0] M Q := by
  unfold w_Verifier_dropKind at h
  show e_E 100 d 0 0 0 [(0, .ref l0)] [] M (e_QV Q)
  refine r_aload_n (kd100 rfl) rfl rfl ?_
  refine r_dup (kd100 rfl) rfl rfl ?_
  obtain ⟨g, h⟩ := h
  refine r_get0 (kd100 rfl) (by decide) rfl g rfl ?_
  refine r_iconst (kd100 rfl) (y := 1) (by decide) rfl ?_
  refine r_isub (kd100 rfl) rfl ?_
  obtain ⟨g, h⟩ := h
  have h := h _ rfl
  refine r_put0 (kd100 rfl) (by decide) rfl g rfl ?_
  refine r_aload_n (kd100 rfl) rfl rfl ?_
  refine r_dup (kd100 rfl) rfl rfl ?_
  obtain ⟨g, h⟩ := h
  refine r_get1 (kd100 rfl) (by decide) rfl g rfl ?_
  refine r_ldc2_w (kd100 rfl) (y := 255) (by decide) rfl ?_
  refine r_bipush (kd100 rfl) (y := 8) (by decide) rfl ?_
  refine r_aload_n (kd100 rfl) rfl rfl ?_
  obtain ⟨g, h⟩ := h
  refine r_get0 (kd100 rfl) (by decide) rfl g rfl ?_
  refine r_imul (kd100 rfl) rfl ?_
  refine r_lshl (kd100 rfl) rfl ?_
  refine r_ldc2_w (kd100 rfl) (y := (-1)) (by decide) rfl ?_
  refine r_lxor (kd100 rfl) rfl ?_
  refine r_land (kd100 rfl) rfl ?_
  obtain ⟨g, h⟩ := h
  have h := h _ rfl
  refine r_put1 (kd100 rfl) (by decide) rfl g rfl ?_
  exact r_return (kd100 rfl) R100 h
/-- TierMill$Verifier.addKind(I)V -/
theorem kd101 {pc : Nat} {q : eI} (h : e_d101.lookup pc = some q) : e_dec 101 pc = some q := h
theorem L101 : (e_m 101).2.2.1 = 2 := rfl
theorem R101 : (e_m 101).2.2.2.1 = none := rfl
def w_Verifier_addKind (l0 : Nat) (l1 : Int32) (M : eM) (Q : eM → Prop) : Prop := e_ob M l0 10 ∧ e_ob M l0 10 ∧ e_ob M l0 10 ∧ ∀ M1 : eM, M1 = e_sl M l0 8 ((gl M l0 8) ||| ((l1.toInt64) <<< ((8 * (gi M l0 6)).toInt64 &&& 63))) → e_ob M1 l0 10 ∧ e_ob M1 l0 10 ∧ ∀ M2 : eM, M2 = e_si M1 l0 6 ((gi M1 l0 6) + 1) → Q M2
theorem b_Verifier_addKind {d : Nat} {l0 : Nat} {l1 : Int32} {M : eM} {Q : eM → Prop} (hd : 0 ≤ d) (h : w_Verifier_addKind l0 l1 M Q) : e_CV 101 d 0 0 [.ref l0, .int l1] M Q := by
  unfold w_Verifier_addKind at h
  show e_E 101 d 0 0 0 [(0, .ref l0), (1, .int l1)] [] M (e_QV Q)
  refine r_aload_n (kd101 rfl) rfl rfl ?_
  refine r_dup (kd101 rfl) rfl rfl ?_
  obtain ⟨g, h⟩ := h
  refine r_get1 (kd101 rfl) (by decide) rfl g rfl ?_
  refine r_iload_n (kd101 rfl) rfl rfl ?_
  refine r_i2l (kd101 rfl) rfl ?_
  refine r_bipush (kd101 rfl) (y := 8) (by decide) rfl ?_
  refine r_aload_n (kd101 rfl) rfl rfl ?_
  obtain ⟨g, h⟩ := h
  refine r_get0 (kd101 rfl) (by decide) rfl g rfl ?_
  refine r_imul (kd101 rfl) rfl ?_
  refine r_lshl (kd101 rfl) rfl ?_
  refine r_lor (kd101 rfl) rfl ?_
  obtain ⟨g, h⟩ := h
  have h := h _ rfl
  refine r_put1 (kd101 rfl) (by decide) rfl g rfl ?_
  refine r_aload_n (kd101 rfl) rfl rfl ?_
  refine r_dup (kd101 rfl) rfl rfl ?_
  obtain ⟨g, h⟩ := h
  refine r_get0 (kd101 rfl) (by decide) rfl g rfl ?_
  refine r_iconst (kd101 rfl) (y := 1) (by decide) rfl ?_
  refine r_iadd (kd101 rfl) rfl ?_
  obtain ⟨g, h⟩ := h
  have h := h _ rfl
  refine r_put0 (kd101 rfl) (by decide) rfl g rfl ?_
  exact r_return (kd101 rfl) R101 h
/-- TierMill$Verifier.takesAt(II)I -/
theorem kd102 {pc : Nat} {q : eI} (h : e_d102.lookup pc = some q) : e_dec 102 pc = some q := h
theorem L102 : (e_m 102).2.2.1 = 3 := rfl
theorem R102 : (e_m 102).2.2.2.1 = (some .int) := rfl
def w_Verifier_takesAt (l0 : Nat) (l1 : Int32) (l2 : Int32) (M : eM) (Q : Int32 → eM → Prop) : Prop := (¬ l2 = 47 → (¬ l2 = 48 → e_ai M 3 l2 ∧ Q (gi M 3 l2.toNatClampNeg) M) ∧ (l2 = 48 → e_ob M l0 10 ∧ e_ob M (gr M l0 3) 6 ∧ e_ob M l0 10 ∧ e_ob M (gr M l0 3) 6 ∧ e_ai M (gr M (gr M l0 3) 0) (l1 + 1) ∧ (e_ar M (gr M (gr M l0 3) 8) 23 (gi M (gr M (gr M l0 3) 0) (l1 + 1).toNatClampNeg) ∨ e_ar M (gr M (gr M l0 3) 8) 24 (gi M (gr M (gr M l0 3) 0) (l1 + 1).toNatClampNeg)) ∧ e_ob M (gr M (gr M (gr M l0 3) 8) (gi M (gr M (gr M l0 3) 0) (l1 + 1).toNatClampNeg).toNatClampNeg) 8 ∧ Q ((gi M (gr M (gr M (gr M l0 3) 8) (gi M (gr M (gr M l0 3) 0) (l1 + 1).toNatClampNeg).toNatClampNeg) 1) + 1) M)) ∧ (l2 = 47 → e_ob M l0 10 ∧ e_ob M (gr M l0 3) 6 ∧ e_ob M l0 10 ∧ e_ob M (gr M l0 3) 6 ∧ e_ai M (gr M (gr M l0 3) 0) (l1 + 1) ∧ (e_ar M (gr M (gr M l0 3) 10) 23 (gi M (gr M (gr M l0 3) 0) (l1 + 1).toNatClampNeg) ∨ e_ar M (gr M (gr M l0 3) 10) 24 (gi M (gr M (gr M l0 3) 0) (l1 + 1).toNatClampNeg)) ∧ e_ob M (gr M (gr M (gr M l0 3) 10) (gi M (gr M (gr M l0 3) 0) (l1 + 1).toNatClampNeg).toNatClampNeg) 8 ∧ Q (gi M (gr M (gr M (gr M l0 3) 10) (gi M (gr M (gr M l0 3) 0) (l1 + 1).toNatClampNeg).toNatClampNeg) 1) M)
theorem b_Verifier_takesAt {d : Nat} {l0 : Nat} {l1 : Int32} {l2 : Int32} {M : eM} {Q : Int32 → eM → Prop} (hd : 0 ≤ d) (h : w_Verifier_takesAt l0 l1 l2 M Q) : e_CI 102 d 0 0 [.ref l0, .int l1, .int l2] M Q := by
  unfold w_Verifier_takesAt at h
  show e_E 102 d 0 0 0 [(0, .ref l0), (1, .int l1), (2, .int l2)] [] M (e_QI Q)
  refine r_iload_n (kd102 rfl) rfl rfl ?_
  refine r_bipush (kd102 rfl) (y := 47) (by decide) rfl ?_
  refine r_icmp_ne (kd102 rfl) rfl (fun c => ?_) (fun c => ?_)
  · have h := h.1 c
    refine r_iload_n (kd102 rfl) rfl rfl ?_
    refine r_bipush (kd102 rfl) (y := 48) (by decide) rfl ?_
    refine r_icmp_ne (kd102 rfl) rfl (fun c => ?_) (fun c => ?_)
    · have h := h.1 c
      refine r_getstatic (kd102 rfl) (by decide) rfl ?_
      refine r_iload_n (kd102 rfl) rfl rfl ?_
      obtain ⟨g, h⟩ := h
      refine r_iaload (kd102 rfl) g rfl ?_
      exact r_ireturn (kd102 rfl) R102 h
    · have h := h.2 c
      refine r_aload_n (kd102 rfl) rfl rfl ?_
      obtain ⟨g, h⟩ := h
      refine r_get2 (kd102 rfl) (by decide) rfl g rfl ?_
      obtain ⟨g, h⟩ := h
      refine r_get2 (kd102 rfl) (by decide) rfl g rfl ?_
      refine r_aload_n (kd102 rfl) rfl rfl ?_
      obtain ⟨g, h⟩ := h
      refine r_get2 (kd102 rfl) (by decide) rfl g rfl ?_
      obtain ⟨g, h⟩ := h
      refine r_get2 (kd102 rfl) (by decide) rfl g rfl ?_
      refine r_iload_n (kd102 rfl) rfl rfl ?_
      refine r_iconst (kd102 rfl) (y := 1) (by decide) rfl ?_
      refine r_iadd (kd102 rfl) rfl ?_
      obtain ⟨g, h⟩ := h
      refine r_iaload (kd102 rfl) g rfl ?_
      obtain ⟨g, h⟩ := h
      refine r_aaload (kd102 rfl) g rfl ?_
      obtain ⟨g, h⟩ := h
      refine r_get0 (kd102 rfl) (by decide) rfl g rfl ?_
      refine r_iconst (kd102 rfl) (y := 1) (by decide) rfl ?_
      refine r_iadd (kd102 rfl) rfl ?_
      exact r_ireturn (kd102 rfl) R102 h
  · have h := h.2 c
    refine r_aload_n (kd102 rfl) rfl rfl ?_
    obtain ⟨g, h⟩ := h
    refine r_get2 (kd102 rfl) (by decide) rfl g rfl ?_
    obtain ⟨g, h⟩ := h
    refine r_get2 (kd102 rfl) (by decide) rfl g rfl ?_
    refine r_aload_n (kd102 rfl) rfl rfl ?_
    obtain ⟨g, h⟩ := h
    refine r_get2 (kd102 rfl) (by decide) rfl g rfl ?_
    obtain ⟨g, h⟩ := h
    refine r_get2 (kd102 rfl) (by decide) rfl g rfl ?_
    refine r_iload_n (kd102 rfl) rfl rfl ?_
    refine r_iconst (kd102 rfl) (y := 1) (by decide) rfl ?_
    refine r_iadd (kd102 rfl) rfl ?_
    obtain ⟨g, h⟩ := h
    refine r_iaload (kd102 rfl) g rfl ?_
    obtain ⟨g, h⟩ := h
    refine r_aaload (kd102 rfl) g rfl ?_
    obtain ⟨g, h⟩ := h
    refine r_get0 (kd102 rfl) (by decide) rfl g rfl ?_
    exact r_ireturn (kd102 rfl) R102 h
/-- TierMill$Verifier.returnedAt(II)I -/
theorem kd104 {pc : Nat} {q : eI} (h : e_d104.lookup pc = some q) : e_dec 104 pc = some q := h
theorem L104 : (e_m 104).2.2.1 = 4 := rfl
theorem R104 : (e_m 104).2.2.2.1 = (some .int) := rfl
def w_Verifier_returnedAt_45 (s0 : Int32) (M : eM) (Q : Int32 → eM → Prop) : Prop := Q s0 M
theorem b_Verifier_returnedAt_45 {d : Nat} {s0 : Int32} {M : eM} {Q : Int32 → eM → Prop} (hd : 0 ≤ d) (h : w_Verifier_returnedAt_45 s0 M Q ) : e_E 104 d 0 0 45 [] [.int s0] M (e_QI Q) := by
  unfold w_Verifier_returnedAt_45 at h
  exact r_ireturn (kd104 rfl) R104 h
def w_Verifier_returnedAt (l0 : Nat) (l1 : Int32) (l2 : Int32) (M : eM) (Q : Int32 → eM → Prop) : Prop := e_ob M l0 10 ∧ e_ob M (gr M l0 3) 6 ∧ e_ai M (gr M (gr M l0 3) 0) (l1 + 1) ∧ (¬ l2 = 47 → e_ob M l0 10 ∧ e_ob M (gr M l0 3) 6 ∧ (e_ar M (gr M (gr M l0 3) 8) 23 (gi M (gr M (gr M l0 3) 0) (l1 + 1).toNatClampNeg) ∨ e_ar M (gr M (gr M l0 3) 8) 24 (gi M (gr M (gr M l0 3) 0) (l1 + 1).toNatClampNeg)) ∧ e_ob M (gr M (gr M (gr M l0 3) 8) (gi M (gr M (gr M l0 3) 0) (l1 + 1).toNatClampNeg).toNatClampNeg) 8 ∧ w_Verifier_returnedAt_45 (gi M (gr M (gr M (gr M l0 3) 8) (gi M (gr M (gr M l0 3) 0) (l1 + 1).toNatClampNeg).toNatClampNeg) 2) M Q) ∧ (l2 = 47 → e_ob M l0 10 ∧ e_ob M (gr M l0 3) 6 ∧ (e_ar M (gr M (gr M l0 3) 10) 23 (gi M (gr M (gr M l0 3) 0) (l1 + 1).toNatClampNeg) ∨ e_ar M (gr M (gr M l0 3) 10) 24 (gi M (gr M (gr M l0 3) 0) (l1 + 1).toNatClampNeg)) ∧ e_ob M (gr M (gr M (gr M l0 3) 10) (gi M (gr M (gr M l0 3) 0) (l1 + 1).toNatClampNeg).toNatClampNeg) 8 ∧ w_Verifier_returnedAt_45 (gi M (gr M (gr M (gr M l0 3) 10) (gi M (gr M (gr M l0 3) 0) (l1 + 1).toNatClampNeg).toNatClampNeg) 2) M Q)
theorem b_Verifier_returnedAt {d : Nat} {l0 : Nat} {l1 : Int32} {l2 : Int32} {M : eM} {Q : Int32 → eM → Prop} (hd : 0 ≤ d) (h : w_Verifier_returnedAt l0 l1 l2 M Q) : e_CI 104 d 0 0 [.ref l0, .int l1, .int l2] M Q := by
  unfold w_Verifier_returnedAt at h
  show e_E 104 d 0 0 0 [(0, .ref l0), (1, .int l1), (2, .int l2)] [] M (e_QI Q)
  refine r_aload_n (kd104 rfl) rfl rfl ?_
  obtain ⟨g, h⟩ := h
  refine r_get2 (kd104 rfl) (by decide) rfl g rfl ?_
  obtain ⟨g, h⟩ := h
  refine r_get2 (kd104 rfl) (by decide) rfl g rfl ?_
  refine r_iload_n (kd104 rfl) rfl rfl ?_
  refine r_iconst (kd104 rfl) (y := 1) (by decide) rfl ?_
  refine r_iadd (kd104 rfl) rfl ?_
  obtain ⟨g, h⟩ := h
  refine r_iaload (kd104 rfl) g rfl ?_
  refine r_istore_n (kd104 rfl) L104 (by decide) rfl rfl ?_
  refine r_iload_n (kd104 rfl) rfl rfl ?_
  refine r_bipush (kd104 rfl) (y := 47) (by decide) rfl ?_
  refine r_icmp_ne (kd104 rfl) rfl (fun c => ?_) (fun c => ?_)
  · have h := h.1 c
    refine r_aload_n (kd104 rfl) rfl rfl ?_
    obtain ⟨g, h⟩ := h
    refine r_get2 (kd104 rfl) (by decide) rfl g rfl ?_
    obtain ⟨g, h⟩ := h
    refine r_get2 (kd104 rfl) (by decide) rfl g rfl ?_
    refine r_iload_n (kd104 rfl) rfl rfl ?_
    obtain ⟨g, h⟩ := h
    refine r_aaload (kd104 rfl) g rfl ?_
    obtain ⟨g, h⟩ := h
    refine r_get0 (kd104 rfl) (by decide) rfl g rfl ?_
    exact (b_Verifier_returnedAt_45 hd h).less e_sn
  · have h := h.2 c
    refine r_aload_n (kd104 rfl) rfl rfl ?_
    obtain ⟨g, h⟩ := h
    refine r_get2 (kd104 rfl) (by decide) rfl g rfl ?_
    obtain ⟨g, h⟩ := h
    refine r_get2 (kd104 rfl) (by decide) rfl g rfl ?_
    refine r_iload_n (kd104 rfl) rfl rfl ?_
    obtain ⟨g, h⟩ := h
    refine r_aaload (kd104 rfl) g rfl ?_
    obtain ⟨g, h⟩ := h
    refine r_get0 (kd104 rfl) (by decide) rfl g rfl ?_
    refine r_goto (kd104 rfl) ?_
    exact (b_Verifier_returnedAt_45 hd h).less e_sn
/-- TierMill$Verifier.putsAt(II)I -/
theorem kd103 {pc : Nat} {q : eI} (h : e_d103.lookup pc = some q) : e_dec 103 pc = some q := h
theorem L103 : (e_m 103).2.2.1 = 3 := rfl
theorem R103 : (e_m 103).2.2.2.1 = (some .int) := rfl
def w_Verifier_putsAt_26 (s0 : Int32) (M : eM) (Q : Int32 → eM → Prop) : Prop := Q s0 M
theorem b_Verifier_putsAt_26 {d : Nat} {s0 : Int32} {M : eM} {Q : Int32 → eM → Prop} (hd : 1 ≤ d) (h : w_Verifier_putsAt_26 s0 M Q ) : e_E 103 d 0 0 26 [] [.int s0] M (e_QI Q) := by
  unfold w_Verifier_putsAt_26 at h
  exact r_ireturn (kd103 rfl) R103 h
def w_Verifier_putsAt_12 (l0 : Nat) (l1 : Int32) (l2 : Int32) (M : eM) (Q : Int32 → eM → Prop) : Prop := e_ob M l0 10 ∧ w_Verifier_returnedAt l0 l1 l2 M (fun (v2 : Int32) (M1 : eM) => (¬ v2 = 0 → w_Verifier_putsAt_26 1 M1 Q) ∧ (v2 = 0 → w_Verifier_putsAt_26 0 M1 Q))
theorem b_Verifier_putsAt_12 {d : Nat} {l0 : Nat} {l1 : Int32} {l2 : Int32} {M : eM} {Q : Int32 → eM → Prop} (hd : 1 ≤ d) (h : w_Verifier_putsAt_12 l0 l1 l2 M Q ) : e_E 103 d 0 0 12 [(0, .ref l0), (1, .int l1), (2, .int l2)] [] M (e_QI Q) := by
  unfold w_Verifier_putsAt_12 at h
  refine r_aload_n (kd103 rfl) rfl rfl ?_
  refine r_iload_n (kd103 rfl) rfl rfl ?_
  refine r_iload_n (kd103 rfl) rfl rfl ?_
  obtain ⟨g, h⟩ := h
  refine r_callVI (d' := d - 1) (by omega) (kd103 rfl) (by decide) rfl rfl rfl rfl (Nat.le_of_ble_eq_true rfl) rfl L104 (Nat.le_of_ble_eq_true rfl) (Nat.le_of_ble_eq_true rfl) g (Nat.zero_le _) (Nat.zero_le _) rfl rfl rfl (b_Verifier_returnedAt (by omega) h) (fun x1 M1 h => ?_)
  refine r_if_ne (kd103 rfl) rfl (fun c => ?_) (fun c => ?_)
  · have h := h.1 c
    refine r_iconst (kd103 rfl) (y := 1) (by decide) rfl ?_
    exact (b_Verifier_putsAt_26 hd h).less e_sn
  · have h := h.2 c
    refine r_iconst (kd103 rfl) (y := 0) (by decide) rfl ?_
    refine r_goto (kd103 rfl) ?_
    exact (b_Verifier_putsAt_26 hd h).less e_sn
def w_Verifier_putsAt (l0 : Nat) (l1 : Int32) (l2 : Int32) (M : eM) (Q : Int32 → eM → Prop) : Prop := (l2 = 47 → w_Verifier_putsAt_12 l0 l1 l2 M Q) ∧ (¬ l2 = 47 → (¬ l2 = 48 → e_ai M 4 l2 ∧ Q (gi M 4 l2.toNatClampNeg) M) ∧ (l2 = 48 → w_Verifier_putsAt_12 l0 l1 l2 M Q))
theorem b_Verifier_putsAt {d : Nat} {l0 : Nat} {l1 : Int32} {l2 : Int32} {M : eM} {Q : Int32 → eM → Prop} (hd : 1 ≤ d) (h : w_Verifier_putsAt l0 l1 l2 M Q) : e_CI 103 d 0 0 [.ref l0, .int l1, .int l2] M Q := by
  unfold w_Verifier_putsAt at h
  show e_E 103 d 0 0 0 [(0, .ref l0), (1, .int l1), (2, .int l2)] [] M (e_QI Q)
  refine r_iload_n (kd103 rfl) rfl rfl ?_
  refine r_bipush (kd103 rfl) (y := 47) (by decide) rfl ?_
  refine r_icmp_eq (kd103 rfl) rfl (fun c => ?_) (fun c => ?_)
  · have h := h.1 c
    exact (b_Verifier_putsAt_12 hd h).less (e_sc (List.mem_of_getElem? (i := 0) rfl) (e_sc (List.mem_of_getElem? (i := 1) rfl) (e_sc (List.mem_of_getElem? (i := 2) rfl) e_sn)))
  · have h := h.2 c
    refine r_iload_n (kd103 rfl) rfl rfl ?_
    refine r_bipush (kd103 rfl) (y := 48) (by decide) rfl ?_
    refine r_icmp_ne (kd103 rfl) rfl (fun c => ?_) (fun c => ?_)
    · have h := h.1 c
      refine r_getstatic (kd103 rfl) (by decide) rfl ?_
      refine r_iload_n (kd103 rfl) rfl rfl ?_
      obtain ⟨g, h⟩ := h
      refine r_iaload (kd103 rfl) g rfl ?_
      exact r_ireturn (kd103 rfl) R103 h
    · have h := h.2 c
      exact (b_Verifier_putsAt_12 hd h).less (e_sc (List.mem_of_getElem? (i := 0) rfl) (e_sc (List.mem_of_getElem? (i := 1) rfl) (e_sc (List.mem_of_getElem? (i := 2) rfl) e_sn)))
/-- TierMill$Verifier.kindPut(II)I -/
theorem kd105 {pc : Nat} {q : eI} (h : e_d105.lookup pc = some q) : e_dec 105 pc = some q := h
theorem L105 : (e_m 105).2.2.1 = 3 := rfl
theorem R105 : (e_m 105).2.2.2.1 = (some .int) := rfl
def w_Verifier_kindPut_70 (l0 : Nat) (l1 : Int32) (M : eM) (Q : Int32 → eM → Prop) : Prop := e_ob M l0 10 ∧ e_ob M (gr M l0 3) 6 ∧ e_ai M (gr M (gr M l0 3) 0) (l1 + 1) ∧ Q (16 + (gi M (gr M (gr M l0 3) 0) (l1 + 1).toNatClampNeg)) M
theorem b_Verifier_kindPut_70 {d : Nat} {l0 : Nat} {l1 : Int32} {M : eM} {Q : Int32 → eM → Prop} (hd : 1 ≤ d) (h : w_Verifier_kindPut_70 l0 l1 M Q ) : e_E 105 d 0 0 70 [(0, .ref l0), (1, .int l1)] [] M (e_QI Q) := by
  unfold w_Verifier_kindPut_70 at h
  refine r_bipush (kd105 rfl) (y := 16) (by decide) rfl ?_
  refine r_aload_n (kd105 rfl) rfl rfl ?_
  obtain ⟨g, h⟩ := h
  refine r_get2 (kd105 rfl) (by decide) rfl g rfl ?_
  obtain ⟨g, h⟩ := h
  refine r_get2 (kd105 rfl) (by decide) rfl g rfl ?_
  refine r_iload_n (kd105 rfl) rfl rfl ?_
  refine r_iconst (kd105 rfl) (y := 1) (by decide) rfl ?_
  refine r_iadd (kd105 rfl) rfl ?_
  obtain ⟨g, h⟩ := h
  refine r_iaload (kd105 rfl) g rfl ?_
  refine r_iadd (kd105 rfl) rfl ?_
  exact r_ireturn (kd105 rfl) R105 h
def w_Verifier_kindPut_122 (l0 : Nat) (l1 : Int32) (l2 : Int32) (M : eM) (Q : Int32 → eM → Prop) : Prop := e_ob M l0 10 ∧ w_Verifier_returnedAt l0 l1 l2 M (fun (v2 : Int32) (M1 : eM) => Q v2 M1)
theorem b_Verifier_kindPut_122 {d : Nat} {l0 : Nat} {l1 : Int32} {l2 : Int32} {M : eM} {Q : Int32 → eM → Prop} (hd : 1 ≤ d) (h : w_Verifier_kindPut_122 l0 l1 l2 M Q ) : e_E 105 d 0 0 122 [(0, .ref l0), (1, .int l1), (2, .int l2)] [] M (e_QI Q) := by
  unfold w_Verifier_kindPut_122 at h
  refine r_aload_n (kd105 rfl) rfl rfl ?_
  refine r_iload_n (kd105 rfl) rfl rfl ?_
  refine r_iload_n (kd105 rfl) rfl rfl ?_
  obtain ⟨g, h⟩ := h
  refine r_callVI (d' := d - 1) (by omega) (kd105 rfl) (by decide) rfl rfl rfl rfl (Nat.le_of_ble_eq_true rfl) rfl L104 (Nat.le_of_ble_eq_true rfl) (Nat.le_of_ble_eq_true rfl) g (Nat.zero_le _) (Nat.zero_le _) rfl rfl rfl (b_Verifier_returnedAt (by omega) h) (fun x1 M1 h => ?_)
  exact r_ireturn (kd105 rfl) R105 h
def w_Verifier_kindPut (l0 : Nat) (l1 : Int32) (l2 : Int32) (M : eM) (Q : Int32 → eM → Prop) : Prop := (l2 = 2 → Q (3 : Int32) M) ∧ (¬ l2 = 2 → (l2 = 38 → w_Verifier_kindPut_70 l0 l1 M Q) ∧ (¬ l2 = 38 → (l2 = 39 → e_ob M l0 10 ∧ e_ob M (gr M l0 3) 6 ∧ e_ob M l0 10 ∧ e_ob M (gr M l0 3) 6 ∧ e_ai M (gr M (gr M l0 3) 0) (l1 + 1) ∧ e_ob M l0 10 ∧ e_ob M (gr M l0 3) 6 ∧ e_ai M (gr M (gr M l0 3) 0) (l1 + 2) ∧ e_ai M (gr M (gr M l0 3) 6) (((gi M (gr M (gr M l0 3) 0) (l1 + 1).toNatClampNeg) * 8) + (gi M (gr M (gr M l0 3) 0) (l1 + 2).toNatClampNeg)) ∧ Q (gi M (gr M (gr M l0 3) 6) (((gi M (gr M (gr M l0 3) 0) (l1 + 1).toNatClampNeg) * 8) + (gi M (gr M (gr M l0 3) 0) (l1 + 2).toNatClampNeg)).toNatClampNeg) M) ∧ (¬ l2 = 39 → (l2 = 41 → Q (2 : Int32) M) ∧ (¬ l2 = 41 → (l2 = 46 → w_Verifier_kindPut_70 l0 l1 M Q) ∧ (¬ l2 = 46 → (l2 = 47 → w_Verifier_kindPut_122 l0 l1 l2 M Q) ∧ (¬ l2 = 47 → (l2 = 48 → w_Verifier_kindPut_122 l0 l1 l2 M Q) ∧ (¬ l2 = 48 → Q (1 : Int32) M)))))))
theorem b_Verifier_kindPut {d : Nat} {l0 : Nat} {l1 : Int32} {l2 : Int32} {M : eM} {Q : Int32 → eM → Prop} (hd : 1 ≤ d) (h : w_Verifier_kindPut l0 l1 l2 M Q) : e_CI 105 d 0 0 [.ref l0, .int l1, .int l2] M Q := by
  unfold w_Verifier_kindPut at h
  show e_E 105 d 0 0 0 [(0, .ref l0), (1, .int l1), (2, .int l2)] [] M (e_QI Q)
  refine r_iload_n (kd105 rfl) rfl rfl ?_
  refine r_lookupswitch (kd105 rfl) (u := 129) (qs := [(2, 68), (38, 70), (39, 85), (41, 120), (46, 70), (47, 122), (48, 122)]) rfl rfl (by decide) ?_
  refine ⟨fun c => ?_, fun c => ?_⟩
  · have h := h.1 c
    refine r_iconst (kd105 rfl) (y := 3) (by decide) rfl ?_
    exact r_ireturn (kd105 rfl) R105 h
  have h := h.2 c
  refine ⟨fun c => ?_, fun c => ?_⟩
  · have h := h.1 c
    exact (b_Verifier_kindPut_70 hd h).less (e_sc (List.mem_of_getElem? (i := 0) rfl) (e_sc (List.mem_of_getElem? (i := 1) rfl) e_sn))
  have h := h.2 c
  refine ⟨fun c => ?_, fun c => ?_⟩
  · have h := h.1 c
    refine r_aload_n (kd105 rfl) rfl rfl ?_
    obtain ⟨g, h⟩ := h
    refine r_get2 (kd105 rfl) (by decide) rfl g rfl ?_
    obtain ⟨g, h⟩ := h
    refine r_get2 (kd105 rfl) (by decide) rfl g rfl ?_
    refine r_aload_n (kd105 rfl) rfl rfl ?_
    obtain ⟨g, h⟩ := h
    refine r_get2 (kd105 rfl) (by decide) rfl g rfl ?_
    obtain ⟨g, h⟩ := h
    refine r_get2 (kd105 rfl) (by decide) rfl g rfl ?_
    refine r_iload_n (kd105 rfl) rfl rfl ?_
    refine r_iconst (kd105 rfl) (y := 1) (by decide) rfl ?_
    refine r_iadd (kd105 rfl) rfl ?_
    obtain ⟨g, h⟩ := h
    refine r_iaload (kd105 rfl) g rfl ?_
    refine r_bipush (kd105 rfl) (y := 8) (by decide) rfl ?_
    refine r_imul (kd105 rfl) rfl ?_
    refine r_aload_n (kd105 rfl) rfl rfl ?_
    obtain ⟨g, h⟩ := h
    refine r_get2 (kd105 rfl) (by decide) rfl g rfl ?_
    obtain ⟨g, h⟩ := h
    refine r_get2 (kd105 rfl) (by decide) rfl g rfl ?_
    refine r_iload_n (kd105 rfl) rfl rfl ?_
    refine r_iconst (kd105 rfl) (y := 2) (by decide) rfl ?_
    refine r_iadd (kd105 rfl) rfl ?_
    obtain ⟨g, h⟩ := h
    refine r_iaload (kd105 rfl) g rfl ?_
    refine r_iadd (kd105 rfl) rfl ?_
    obtain ⟨g, h⟩ := h
    refine r_iaload (kd105 rfl) g rfl ?_
    exact r_ireturn (kd105 rfl) R105 h
  have h := h.2 c
  refine ⟨fun c => ?_, fun c => ?_⟩
  · have h := h.1 c
    refine r_iconst (kd105 rfl) (y := 2) (by decide) rfl ?_
    exact r_ireturn (kd105 rfl) R105 h
  have h := h.2 c
  refine ⟨fun c => ?_, fun c => ?_⟩
  · have h := h.1 c
    exact (b_Verifier_kindPut_70 hd h).less (e_sc (List.mem_of_getElem? (i := 0) rfl) (e_sc (List.mem_of_getElem? (i := 1) rfl) e_sn))
  have h := h.2 c
  refine ⟨fun c => ?_, fun c => ?_⟩
  · have h := h.1 c
    exact (b_Verifier_kindPut_122 hd h).less (e_sc (List.mem_of_getElem? (i := 0) rfl) (e_sc (List.mem_of_getElem? (i := 1) rfl) (e_sc (List.mem_of_getElem? (i := 2) rfl) e_sn)))
  have h := h.2 c
  refine ⟨fun c => ?_, fun c => ?_⟩
  · have h := h.1 c
    exact (b_Verifier_kindPut_122 hd h).less (e_sc (List.mem_of_getElem? (i := 0) rfl) (e_sc (List.mem_of_getElem? (i := 1) rfl) (e_sc (List.mem_of_getElem? (i := 2) rfl) e_sn)))
  have h := h.2 c
  show e_E 105 _ _ _ 129 _ _ _ _
  refine r_iconst (kd105 rfl) (y := 1) (by decide) rfl ?_
  exact r_ireturn (kd105 rfl) R105 h
/-- TierMill$Verifier.findBehind(II)V -/
theorem kd99 {pc : Nat} {q : eI} (h : e_d99.lookup pc = some q) : e_dec 99 pc = some q := h
theorem L99 : (e_m 99).2.2.1 = 9 := rfl
theorem R99 : (e_m 99).2.2.2.1 = none := rfl
set_option maxRecDepth 100000 in
def w_Verifier_findBehind_75 (l0 : Nat) (M : eM) (Q : eM → Prop) : Prop := e_ob M l0 10 ∧ ∀ M25 : eM, M25 = e_si M l0 6 (-2) → Q M25
set_option maxRecDepth 100000 in
theorem b_Verifier_findBehind_75 {d : Nat} {l0 : Nat} {M : eM} {Q : eM → Prop} (hd : 2 ≤ d) (h : w_Verifier_findBehind_75 l0 M Q ) : e_E 99 d 0 0 75 [(0, .ref l0)] [] M (e_QV Q) := by
  unfold w_Verifier_findBehind_75 at h
  refine r_aload_n (kd99 rfl) rfl rfl ?_
  refine r_bipush (kd99 rfl) (y := (-2)) (by decide) rfl ?_
  obtain ⟨g, h⟩ := h
  have h := h _ rfl
  refine r_put0 (kd99 rfl) (by decide) rfl g rfl ?_
  exact r_return (kd99 rfl) R99 h
set_option maxRecDepth 100000 in
def w_Verifier_findBehind_286 (M : eM) (Q : eM → Prop) : Prop := Q M
set_option maxRecDepth 100000 in
theorem b_Verifier_findBehind_286 {d : Nat} {M : eM} {Q : eM → Prop} (hd : 2 ≤ d) (h : w_Verifier_findBehind_286 M Q ) : e_E 99 d 0 0 286 [] [] M (e_QV Q) := by
  unfold w_Verifier_findBehind_286 at h
  exact r_return (kd99 rfl) R99 h
set_option maxRecDepth 100000 in
def w_Verifier_findBehind_131 : Nat → Nat → Int32 → Int32 → Int32 → Int32 → Int32 → Int32 → Int32 → eM → (eM → Prop) → Prop
  | 0, _, _, _, _, _, _, _, _, _, _ => False
  | n + 1, l0, l1, l2, l4, l5, l6, l7, l8, M, Q => (l4 ≤ l8 → (¬ l2 = 3 → (¬ l2 = 4 → (¬ l2 = 6 → (¬ l2 = 7 → (¬ l5 = 1 → w_Verifier_findBehind_286  M Q) ∧ (l5 = 1 → e_ob M l0 10 ∧ w_Verifier_kindPut l0 l1 l2 M (fun (v14 : Int32) (M13 : eM) => e_ob M13 l0 10 ∧ w_Verifier_addKind l0 v14 M13 (fun (M15 : eM) => w_Verifier_findBehind_286  M15 Q)))) ∧ (l2 = 7 → e_ob M l0 10 ∧ w_Verifier_addKind l0 l6 M (fun (M16 : eM) => e_ob M16 l0 10 ∧ w_Verifier_addKind l0 l7 M16 (fun (M17 : eM) => w_Verifier_findBehind_286  M17 Q)))) ∧ (l2 = 6 → e_ob M l0 10 ∧ w_Verifier_addKind l0 l6 M (fun (M18 : eM) => e_ob M18 l0 10 ∧ w_Verifier_addKind l0 l6 M18 (fun (M19 : eM) => w_Verifier_findBehind_286  M19 Q)))) ∧ (l2 = 4 → e_ob M l0 10 ∧ e_ob M (gr M l0 3) 6 ∧ e_ai M (gr M (gr M l0 3) 0) (l1 + 1) ∧ e_ob M l0 10 ∧ e_ob M l0 10 ∧ ∀ M20 : eM, M20 = e_sl M l0 7 (((gl M l0 7) &&& ((255 <<< ((8 * (gi M (gr M (gr M l0 3) 0) (l1 + 1).toNatClampNeg)).toInt64 &&& 63)) ^^^ (-1))) ||| ((l6.toInt64) <<< ((8 * (gi M (gr M (gr M l0 3) 0) (l1 + 1).toNatClampNeg)).toInt64 &&& 63))) → w_Verifier_findBehind_286  M20 Q)) ∧ (l2 = 3 → e_ob M l0 10 ∧ e_ob M l0 10 ∧ e_ob M (gr M l0 3) 6 ∧ e_ai M (gr M (gr M l0 3) 0) (l1 + 1) ∧ w_Program_kindIn (gl M l0 7) (gi M (gr M (gr M l0 3) 0) (l1 + 1).toNatClampNeg) M (fun (v22 : Int32) (M21 : eM) => e_ob M21 l0 10 ∧ w_Verifier_addKind l0 v22 M21 (fun (M23 : eM) => w_Verifier_findBehind_286  M23 Q)))) ∧ (¬ l4 ≤ l8 → e_ob M l0 10 ∧ w_Verifier_dropKind l0 M (fun (M24 : eM) => (fun l0 l1 l2 l4 l5 l6 l7 l8 M => w_Verifier_findBehind_131 n l0 l1 l2 l4 l5 l6 l7 l8 M Q ) l0 l1 l2 l4 l5 l6 l7 (l8 + 1) M24))
set_option maxRecDepth 100000 in
theorem b_Verifier_findBehind_131 {d : Nat} {Q : eM → Prop} (hd : 2 ≤ d) (n : Nat) : ∀ (l0 : Nat) (l1 : Int32) (l2 : Int32) (l4 : Int32) (l5 : Int32) (l6 : Int32) (l7 : Int32) (l8 : Int32) (M : eM), w_Verifier_findBehind_131 n l0 l1 l2 l4 l5 l6 l7 l8 M Q → e_E 99 d 0 0 131 [(0, .ref l0), (1, .int l1), (2, .int l2), (4, .int l4), (5, .int l5), (6, .int l6), (7, .int l7), (8, .int l8)] [] M (e_QV Q) := by
  induction n with
  | zero => intro l0 l1 l2 l4 l5 l6 l7 l8 M h; exact False.elim h
  | succ n ih =>
    intro l0 l1 l2 l4 l5 l6 l7 l8 M h
    have hk131 := ih
    refine r_iload (kd99 rfl) rfl rfl ?_
    refine r_iload (kd99 rfl) rfl rfl ?_
    refine r_icmp_ge (kd99 rfl) rfl (fun c => ?_) (fun c => ?_)
    · have h := h.1 c
      refine r_iload_n (kd99 rfl) rfl rfl ?_
      refine r_iconst (kd99 rfl) (y := 3) (by decide) rfl ?_
      refine r_icmp_ne (kd99 rfl) rfl (fun c => ?_) (fun c => ?_)
      · have h := h.1 c
        refine r_iload_n (kd99 rfl) rfl rfl ?_
        refine r_iconst (kd99 rfl) (y := 4) (by decide) rfl ?_
        refine r_icmp_ne (kd99 rfl) rfl (fun c => ?_) (fun c => ?_)
        · have h := h.1 c
          refine r_iload_n (kd99 rfl) rfl rfl ?_
          refine r_bipush (kd99 rfl) (y := 6) (by decide) rfl ?_
          refine r_icmp_ne (kd99 rfl) rfl (fun c => ?_) (fun c => ?_)
          · have h := h.1 c
            refine r_iload_n (kd99 rfl) rfl rfl ?_
            refine r_bipush (kd99 rfl) (y := 7) (by decide) rfl ?_
            refine r_icmp_ne (kd99 rfl) rfl (fun c => ?_) (fun c => ?_)
            · have h := h.1 c
              refine r_iload (kd99 rfl) rfl rfl ?_
              refine r_iconst (kd99 rfl) (y := 1) (by decide) rfl ?_
              refine r_icmp_ne (kd99 rfl) rfl (fun c => ?_) (fun c => ?_)
              · have h := h.1 c
                exact (b_Verifier_findBehind_286 hd h).less e_sn
              · have h := h.2 c
                refine r_aload_n (kd99 rfl) rfl rfl ?_
                refine r_aload_n (kd99 rfl) rfl rfl ?_
                refine r_iload_n (kd99 rfl) rfl rfl ?_
                refine r_iload_n (kd99 rfl) rfl rfl ?_
                obtain ⟨g, h⟩ := h
                refine r_callVI (d' := d - 1) (by omega) (kd99 rfl) (by decide) rfl rfl rfl rfl (Nat.le_of_ble_eq_true rfl) rfl L105 (Nat.le_of_ble_eq_true rfl) (Nat.le_of_ble_eq_true rfl) g (Nat.zero_le _) (Nat.zero_le _) rfl rfl rfl (b_Verifier_kindPut (by omega) h) (fun x1 M1 h => ?_)
                obtain ⟨g, h⟩ := h
                refine r_callVV (d' := d - 1) (by omega) (kd99 rfl) (by decide) rfl rfl rfl rfl (Nat.le_of_ble_eq_true rfl) rfl L101 (Nat.le_of_ble_eq_true rfl) (Nat.le_of_ble_eq_true rfl) g (Nat.zero_le _) (Nat.zero_le _) rfl rfl rfl (b_Verifier_addKind (by omega) h) (fun M1 h => ?_)
                exact (b_Verifier_findBehind_286 hd h).less e_sn
            · have h := h.2 c
              refine r_aload_n (kd99 rfl) rfl rfl ?_
              refine r_iload (kd99 rfl) rfl rfl ?_
              obtain ⟨g, h⟩ := h
              refine r_callVV (d' := d - 1) (by omega) (kd99 rfl) (by decide) rfl rfl rfl rfl (Nat.le_of_ble_eq_true rfl) rfl L101 (Nat.le_of_ble_eq_true rfl) (Nat.le_of_ble_eq_true rfl) g (Nat.zero_le _) (Nat.zero_le _) rfl rfl rfl (b_Verifier_addKind (by omega) h) (fun M1 h => ?_)
              refine r_aload_n (kd99 rfl) rfl rfl ?_
              refine r_iload (kd99 rfl) rfl rfl ?_
              obtain ⟨g, h⟩ := h
              refine r_callVV (d' := d - 1) (by omega) (kd99 rfl) (by decide) rfl rfl rfl rfl (Nat.le_of_ble_eq_true rfl) rfl L101 (Nat.le_of_ble_eq_true rfl) (Nat.le_of_ble_eq_true rfl) g (Nat.zero_le _) (Nat.zero_le _) rfl rfl rfl (b_Verifier_addKind (by omega) h) (fun M1 h => ?_)
              refine r_goto (kd99 rfl) ?_
              exact (b_Verifier_findBehind_286 hd h).less e_sn
          · have h := h.2 c
            refine r_aload_n (kd99 rfl) rfl rfl ?_
            refine r_iload (kd99 rfl) rfl rfl ?_
            obtain ⟨g, h⟩ := h
            refine r_callVV (d' := d - 1) (by omega) (kd99 rfl) (by decide) rfl rfl rfl rfl (Nat.le_of_ble_eq_true rfl) rfl L101 (Nat.le_of_ble_eq_true rfl) (Nat.le_of_ble_eq_true rfl) g (Nat.zero_le _) (Nat.zero_le _) rfl rfl rfl (b_Verifier_addKind (by omega) h) (fun M1 h => ?_)
            refine r_aload_n (kd99 rfl) rfl rfl ?_
            refine r_iload (kd99 rfl) rfl rfl ?_
            obtain ⟨g, h⟩ := h
            refine r_callVV (d' := d - 1) (by omega) (kd99 rfl) (by decide) rfl rfl rfl rfl (Nat.le_of_ble_eq_true rfl) rfl L101 (Nat.le_of_ble_eq_true rfl) (Nat.le_of_ble_eq_true rfl) g (Nat.zero_le _) (Nat.zero_le _) rfl rfl rfl (b_Verifier_addKind (by omega) h) (fun M1 h => ?_)
            refine r_goto (kd99 rfl) ?_
            exact (b_Verifier_findBehind_286 hd h).less e_sn
        · have h := h.2 c
          refine r_bipush (kd99 rfl) (y := 8) (by decide) rfl ?_
          refine r_aload_n (kd99 rfl) rfl rfl ?_
          obtain ⟨g, h⟩ := h
          refine r_get2 (kd99 rfl) (by decide) rfl g rfl ?_
          obtain ⟨g, h⟩ := h
          refine r_get2 (kd99 rfl) (by decide) rfl g rfl ?_
          refine r_iload_n (kd99 rfl) rfl rfl ?_
          refine r_iconst (kd99 rfl) (y := 1) (by decide) rfl ?_
          refine r_iadd (kd99 rfl) rfl ?_
          obtain ⟨g, h⟩ := h
          refine r_iaload (kd99 rfl) g rfl ?_
          refine r_imul (kd99 rfl) rfl ?_
          refine r_istore (kd99 rfl) L99 (by decide) rfl rfl ?_
          refine r_aload_n (kd99 rfl) rfl rfl ?_
          refine r_aload_n (kd99 rfl) rfl rfl ?_
          obtain ⟨g, h⟩ := h
          refine r_get1 (kd99 rfl) (by decide) rfl g rfl ?_
          refine r_ldc2_w (kd99 rfl) (y := 255) (by decide) rfl ?_
          refine r_iload (kd99 rfl) rfl rfl ?_
          refine r_lshl (kd99 rfl) rfl ?_
          refine r_ldc2_w (kd99 rfl) (y := (-1)) (by decide) rfl ?_
          refine r_lxor (kd99 rfl) rfl ?_
          refine r_land (kd99 rfl) rfl ?_
          refine r_iload (kd99 rfl) rfl rfl ?_
          refine r_i2l (kd99 rfl) rfl ?_
          refine r_iload (kd99 rfl) rfl rfl ?_
          refine r_lshl (kd99 rfl) rfl ?_
          refine r_lor (kd99 rfl) rfl ?_
          obtain ⟨g, h⟩ := h
          have h := h _ rfl
          refine r_put1 (kd99 rfl) (by decide) rfl g rfl ?_
          refine r_goto (kd99 rfl) ?_
          exact (b_Verifier_findBehind_286 hd h).less e_sn
      · have h := h.2 c
        refine r_aload_n (kd99 rfl) rfl rfl ?_
        refine r_aload_n (kd99 rfl) rfl rfl ?_
        obtain ⟨g, h⟩ := h
        refine r_get1 (kd99 rfl) (by decide) rfl g rfl ?_
        refine r_aload_n (kd99 rfl) rfl rfl ?_
        obtain ⟨g, h⟩ := h
        refine r_get2 (kd99 rfl) (by decide) rfl g rfl ?_
        obtain ⟨g, h⟩ := h
        refine r_get2 (kd99 rfl) (by decide) rfl g rfl ?_
        refine r_iload_n (kd99 rfl) rfl rfl ?_
        refine r_iconst (kd99 rfl) (y := 1) (by decide) rfl ?_
        refine r_iadd (kd99 rfl) rfl ?_
        obtain ⟨g, h⟩ := h
        refine r_iaload (kd99 rfl) g rfl ?_
        refine r_callSI (d' := d - 1) (by omega) (kd99 rfl) (by decide) rfl rfl rfl rfl (Nat.le_of_ble_eq_true rfl) rfl L69 (Nat.le_of_ble_eq_true rfl) (Nat.le_of_ble_eq_true rfl) (Nat.zero_le _) (Nat.zero_le _) rfl rfl rfl (b_Program_kindIn (by omega) h) (fun x1 M1 h => ?_)
        obtain ⟨g, h⟩ := h
        refine r_callVV (d' := d - 1) (by omega) (kd99 rfl) (by decide) rfl rfl rfl rfl (Nat.le_of_ble_eq_true rfl) rfl L101 (Nat.le_of_ble_eq_true rfl) (Nat.le_of_ble_eq_true rfl) g (Nat.zero_le _) (Nat.zero_le _) rfl rfl rfl (b_Verifier_addKind (by omega) h) (fun M1 h => ?_)
        refine r_goto (kd99 rfl) ?_
        exact (b_Verifier_findBehind_286 hd h).less e_sn
    · have h := h.2 c
      refine r_aload_n (kd99 rfl) rfl rfl ?_
      obtain ⟨g, h⟩ := h
      refine r_callVV (d' := d - 1) (by omega) (kd99 rfl) (by decide) rfl rfl rfl rfl (Nat.le_of_ble_eq_true rfl) rfl L100 (Nat.le_of_ble_eq_true rfl) (Nat.le_of_ble_eq_true rfl) g (Nat.zero_le _) (Nat.zero_le _) rfl rfl rfl (b_Verifier_dropKind (by omega) h) (fun M1 h => ?_)
      refine r_iinc (kd99 rfl) rfl (y := 1) (by decide) L99 (by decide) rfl rfl ?_
      refine r_goto (kd99 rfl) ?_
      exact (hk131 _ _ _ _ _ _ _ _ _ h).less (e_sc (List.mem_of_getElem? (i := 1) rfl) (e_sc (List.mem_of_getElem? (i := 2) rfl) (e_sc (List.mem_of_getElem? (i := 3) rfl) (e_sc (List.mem_of_getElem? (i := 4) rfl) (e_sc (List.mem_of_getElem? (i := 5) rfl) (e_sc (List.mem_of_getElem? (i := 6) rfl) (e_sc (List.mem_of_getElem? (i := 7) rfl) (e_sc (List.mem_of_getElem? (i := 0) rfl) e_sn))))))))
set_option maxRecDepth 100000 in
def w_Verifier_findBehind_126 (l0 : Nat) (l1 : Int32) (l2 : Int32) (l4 : Int32) (l5 : Int32) (l6 : Int32) (s0 : Int32) (M : eM) (Q : eM → Prop) : Prop := ∃ n12 : Nat, w_Verifier_findBehind_131 n12 l0 l1 l2 l4 l5 l6 s0 0 M Q
set_option maxRecDepth 100000 in
theorem b_Verifier_findBehind_126 {d : Nat} {l0 : Nat} {l1 : Int32} {l2 : Int32} {l4 : Int32} {l5 : Int32} {l6 : Int32} {s0 : Int32} {M : eM} {Q : eM → Prop} (hd : 2 ≤ d) (h : w_Verifier_findBehind_126 l0 l1 l2 l4 l5 l6 s0 M Q ) : e_E 99 d 0 0 126 [(0, .ref l0), (1, .int l1), (2, .int l2), (4, .int l4), (5, .int l5), (6, .int l6)] [.int s0] M (e_QV Q) := by
  unfold w_Verifier_findBehind_126 at h
  refine r_istore (kd99 rfl) L99 (by decide) rfl rfl ?_
  refine r_iconst (kd99 rfl) (y := 0) (by decide) rfl ?_
  refine r_istore (kd99 rfl) L99 (by decide) rfl rfl ?_
  obtain ⟨n, h⟩ := h
  exact (b_Verifier_findBehind_131 hd n _ _ _ _ _ _ _ _ _ h).less (e_sc (List.mem_of_getElem? (i := 2) rfl) (e_sc (List.mem_of_getElem? (i := 3) rfl) (e_sc (List.mem_of_getElem? (i := 4) rfl) (e_sc (List.mem_of_getElem? (i := 5) rfl) (e_sc (List.mem_of_getElem? (i := 6) rfl) (e_sc (List.mem_of_getElem? (i := 7) rfl) (e_sc (List.mem_of_getElem? (i := 1) rfl) (e_sc (List.mem_of_getElem? (i := 0) rfl) e_sn))))))))
set_option maxRecDepth 100000 in
def w_Verifier_findBehind_105 (l0 : Nat) (l1 : Int32) (l2 : Int32) (l3 : Int32) (l4 : Int32) (l5 : Int32) (s0 : Int32) (M : eM) (Q : eM → Prop) : Prop := (l3 ≤ 1 → w_Verifier_findBehind_126 l0 l1 l2 l4 l5 s0 0 M Q) ∧ (¬ l3 ≤ 1 → e_ob M l0 10 ∧ w_Program_kindIn (gl M l0 8) (l3 - 2) M (fun (v11 : Int32) (M10 : eM) => w_Verifier_findBehind_126 l0 l1 l2 l4 l5 s0 v11 M10 Q))
set_option maxRecDepth 100000 in
theorem b_Verifier_findBehind_105 {d : Nat} {l0 : Nat} {l1 : Int32} {l2 : Int32} {l3 : Int32} {l4 : Int32} {l5 : Int32} {s0 : Int32} {M : eM} {Q : eM → Prop} (hd : 2 ≤ d) (h : w_Verifier_findBehind_105 l0 l1 l2 l3 l4 l5 s0 M Q ) : e_E 99 d 0 0 105 [(0, .ref l0), (1, .int l1), (2, .int l2), (3, .int l3), (4, .int l4), (5, .int l5)] [.int s0] M (e_QV Q) := by
  unfold w_Verifier_findBehind_105 at h
  refine r_istore (kd99 rfl) L99 (by decide) rfl rfl ?_
  refine r_iload_n (kd99 rfl) rfl rfl ?_
  refine r_iconst (kd99 rfl) (y := 1) (by decide) rfl ?_
  refine r_icmp_le (kd99 rfl) rfl (fun c => ?_) (fun c => ?_)
  · have h := h.1 c
    refine r_iconst (kd99 rfl) (y := 0) (by decide) rfl ?_
    exact (b_Verifier_findBehind_126 hd h).less (e_sc (List.mem_of_getElem? (i := 1) rfl) (e_sc (List.mem_of_getElem? (i := 2) rfl) (e_sc (List.mem_of_getElem? (i := 3) rfl) (e_sc (List.mem_of_getElem? (i := 5) rfl) (e_sc (List.mem_of_getElem? (i := 6) rfl) (e_sc (List.mem_of_getElem? (i := 0) rfl) e_sn))))))
  · have h := h.2 c
    refine r_aload_n (kd99 rfl) rfl rfl ?_
    obtain ⟨g, h⟩ := h
    refine r_get1 (kd99 rfl) (by decide) rfl g rfl ?_
    refine r_iload_n (kd99 rfl) rfl rfl ?_
    refine r_iconst (kd99 rfl) (y := 2) (by decide) rfl ?_
    refine r_isub (kd99 rfl) rfl ?_
    refine r_callSI (d' := d - 1) (by omega) (kd99 rfl) (by decide) rfl rfl rfl rfl (Nat.le_of_ble_eq_true rfl) rfl L69 (Nat.le_of_ble_eq_true rfl) (Nat.le_of_ble_eq_true rfl) (Nat.zero_le _) (Nat.zero_le _) rfl rfl rfl (b_Program_kindIn (by omega) h) (fun x1 M1 h => ?_)
    refine r_goto (kd99 rfl) ?_
    exact (b_Verifier_findBehind_126 hd h).less (e_sc (List.mem_of_getElem? (i := 1) rfl) (e_sc (List.mem_of_getElem? (i := 2) rfl) (e_sc (List.mem_of_getElem? (i := 3) rfl) (e_sc (List.mem_of_getElem? (i := 5) rfl) (e_sc (List.mem_of_getElem? (i := 6) rfl) (e_sc (List.mem_of_getElem? (i := 0) rfl) e_sn))))))
set_option maxRecDepth 100000 in
def w_Verifier_findBehind (l0 : Nat) (l1 : Int32) (l2 : Int32) (M : eM) (Q : eM → Prop) : Prop := e_ob M l0 10 ∧ e_ob M (gr M l0 3) 6 ∧ e_ai M (gr M (gr M l0 3) 15) l1 ∧ e_ob M l0 10 ∧ w_Verifier_takesAt l0 l1 l2 M (fun (v2 : Int32) (M1 : eM) => e_ob M1 l0 10 ∧ w_Verifier_putsAt l0 l1 l2 M1 (fun (v4 : Int32) (M3 : eM) => e_ob M3 l0 10 ∧ e_ob M3 (gr M3 l0 3) 6 ∧ e_ar M3 (gr M3 (gr M3 l0 3) 16) 21 l1 ∧ e_ob M3 l0 10 ∧ ∀ M5 : eM, M5 = e_sl M3 l0 7 (gl M3 (gr M3 (gr M3 l0 3) 16) l1.toNatClampNeg) → e_ob M5 l0 10 ∧ e_ob M5 (gr M5 l0 3) 6 ∧ e_ar M5 (gr M5 (gr M5 l0 3) 17) 21 l1 ∧ e_ob M5 l0 10 ∧ ∀ M6 : eM, M6 = e_sl M5 l0 8 (gl M5 (gr M5 (gr M5 l0 3) 17) l1.toNatClampNeg) → ((gi M (gr M (gr M l0 3) 15) l1.toNatClampNeg) < v2 → w_Verifier_findBehind_75 l0 M6 Q) ∧ (¬ (gi M (gr M (gr M l0 3) 15) l1.toNatClampNeg) < v2 → e_ob M6 l0 10 ∧ e_ob M6 (gr M6 l0 4) 8 ∧ ((((gi M (gr M (gr M l0 3) 15) l1.toNatClampNeg) - v2) + v4) ≤ (gi M6 (gr M6 l0 4) 4) → e_ob M6 l0 10 ∧ ∀ M7 : eM, M7 = e_si M6 l0 6 (gi M (gr M (gr M l0 3) 15) l1.toNatClampNeg) → ((gi M (gr M (gr M l0 3) 15) l1.toNatClampNeg) ≤ 0 → w_Verifier_findBehind_105 l0 l1 l2 (gi M (gr M (gr M l0 3) 15) l1.toNatClampNeg) v2 v4 0 M7 Q) ∧ (¬ (gi M (gr M (gr M l0 3) 15) l1.toNatClampNeg) ≤ 0 → e_ob M7 l0 10 ∧ w_Program_kindIn (gl M7 l0 8) ((gi M (gr M (gr M l0 3) 15) l1.toNatClampNeg) - 1) M7 (fun (v9 : Int32) (M8 : eM) => w_Verifier_findBehind_105 l0 l1 l2 (gi M (gr M (gr M l0 3) 15) l1.toNatClampNeg) v2 v4 v9 M8 Q))) ∧ (¬ (((gi M (gr M (gr M l0 3) 15) l1.toNatClampNeg) - v2) + v4) ≤ (gi M6 (gr M6 l0 4) 4) → w_Verifier_findBehind_75 l0 M6 Q))))
set_option maxRecDepth 100000 in
theorem b_Verifier_findBehind {d : Nat} {l0 : Nat} {l1 : Int32} {l2 : Int32} {M : eM} {Q : eM → Prop} (hd : 2 ≤ d) (h : w_Verifier_findBehind l0 l1 l2 M Q) : e_CV 99 d 0 0 [.ref l0, .int l1, .int l2] M Q := by
  unfold w_Verifier_findBehind at h
  show e_E 99 d 0 0 0 [(0, .ref l0), (1, .int l1), (2, .int l2)] [] M (e_QV Q)
  refine r_aload_n (kd99 rfl) rfl rfl ?_
  obtain ⟨g, h⟩ := h
  refine r_get2 (kd99 rfl) (by decide) rfl g rfl ?_
  obtain ⟨g, h⟩ := h
  refine r_get2 (kd99 rfl) (by decide) rfl g rfl ?_
  refine r_iload_n (kd99 rfl) rfl rfl ?_
  obtain ⟨g, h⟩ := h
  refine r_iaload (kd99 rfl) g rfl ?_
  refine r_istore_n (kd99 rfl) L99 (by decide) rfl rfl ?_
  refine r_aload_n (kd99 rfl) rfl rfl ?_
  refine r_iload_n (kd99 rfl) rfl rfl ?_
  refine r_iload_n (kd99 rfl) rfl rfl ?_
  obtain ⟨g, h⟩ := h
  refine r_callVI (d' := d - 1) (by omega) (kd99 rfl) (by decide) rfl rfl rfl rfl (Nat.le_of_ble_eq_true rfl) rfl L102 (Nat.le_of_ble_eq_true rfl) (Nat.le_of_ble_eq_true rfl) g (Nat.zero_le _) (Nat.zero_le _) rfl rfl rfl (b_Verifier_takesAt (by omega) h) (fun x1 M1 h => ?_)
  refine r_istore (kd99 rfl) L99 (by decide) rfl rfl ?_
  refine r_aload_n (kd99 rfl) rfl rfl ?_
  refine r_iload_n (kd99 rfl) rfl rfl ?_
  refine r_iload_n (kd99 rfl) rfl rfl ?_
  obtain ⟨g, h⟩ := h
  refine r_callVI (d' := d - 1) (by omega) (kd99 rfl) (by decide) rfl rfl rfl rfl (Nat.le_of_ble_eq_true rfl) rfl L103 (Nat.le_of_ble_eq_true rfl) (Nat.le_of_ble_eq_true rfl) g (Nat.zero_le _) (Nat.zero_le _) rfl rfl rfl (b_Verifier_putsAt (by omega) h) (fun x1 M1 h => ?_)
  refine r_istore (kd99 rfl) L99 (by decide) rfl rfl ?_
  refine r_aload_n (kd99 rfl) rfl rfl ?_
  refine r_aload_n (kd99 rfl) rfl rfl ?_
  obtain ⟨g, h⟩ := h
  refine r_get2 (kd99 rfl) (by decide) rfl g rfl ?_
  obtain ⟨g, h⟩ := h
  refine r_get2 (kd99 rfl) (by decide) rfl g rfl ?_
  refine r_iload_n (kd99 rfl) rfl rfl ?_
  obtain ⟨g, h⟩ := h
  refine r_laload (kd99 rfl) g rfl ?_
  obtain ⟨g, h⟩ := h
  have h := h _ rfl
  refine r_put1 (kd99 rfl) (by decide) rfl g rfl ?_
  refine r_aload_n (kd99 rfl) rfl rfl ?_
  refine r_aload_n (kd99 rfl) rfl rfl ?_
  obtain ⟨g, h⟩ := h
  refine r_get2 (kd99 rfl) (by decide) rfl g rfl ?_
  obtain ⟨g, h⟩ := h
  refine r_get2 (kd99 rfl) (by decide) rfl g rfl ?_
  refine r_iload_n (kd99 rfl) rfl rfl ?_
  obtain ⟨g, h⟩ := h
  refine r_laload (kd99 rfl) g rfl ?_
  obtain ⟨g, h⟩ := h
  have h := h _ rfl
  refine r_put1 (kd99 rfl) (by decide) rfl g rfl ?_
  refine r_iload_n (kd99 rfl) rfl rfl ?_
  refine r_iload (kd99 rfl) rfl rfl ?_
  refine r_icmp_lt (kd99 rfl) rfl (fun c => ?_) (fun c => ?_)
  · have h := h.1 c
    exact (b_Verifier_findBehind_75 hd h).less (e_sc (List.mem_of_getElem? (i := 3) rfl) e_sn)
  · have h := h.2 c
    refine r_iload_n (kd99 rfl) rfl rfl ?_
    refine r_iload (kd99 rfl) rfl rfl ?_
    refine r_isub (kd99 rfl) rfl ?_
    refine r_iload (kd99 rfl) rfl rfl ?_
    refine r_iadd (kd99 rfl) rfl ?_
    refine r_aload_n (kd99 rfl) rfl rfl ?_
    obtain ⟨g, h⟩ := h
    refine r_get2 (kd99 rfl) (by decide) rfl g rfl ?_
    obtain ⟨g, h⟩ := h
    refine r_get0 (kd99 rfl) (by decide) rfl g rfl ?_
    refine r_icmp_le (kd99 rfl) rfl (fun c => ?_) (fun c => ?_)
    · have h := h.1 c
      refine r_aload_n (kd99 rfl) rfl rfl ?_
      refine r_iload_n (kd99 rfl) rfl rfl ?_
      obtain ⟨g, h⟩ := h
      have h := h _ rfl
      refine r_put0 (kd99 rfl) (by decide) rfl g rfl ?_
      refine r_iload_n (kd99 rfl) rfl rfl ?_
      refine r_if_le (kd99 rfl) rfl (fun c => ?_) (fun c => ?_)
      · have h := h.1 c
        refine r_iconst (kd99 rfl) (y := 0) (by decide) rfl ?_
        exact (b_Verifier_findBehind_105 hd h).less (e_sc (List.mem_of_getElem? (i := 3) rfl) (e_sc (List.mem_of_getElem? (i := 4) rfl) (e_sc (List.mem_of_getElem? (i := 5) rfl) (e_sc (List.mem_of_getElem? (i := 2) rfl) (e_sc (List.mem_of_getElem? (i := 1) rfl) (e_sc (List.mem_of_getElem? (i := 0) rfl) e_sn))))))
      · have h := h.2 c
        refine r_aload_n (kd99 rfl) rfl rfl ?_
        obtain ⟨g, h⟩ := h
        refine r_get1 (kd99 rfl) (by decide) rfl g rfl ?_
        refine r_iload_n (kd99 rfl) rfl rfl ?_
        refine r_iconst (kd99 rfl) (y := 1) (by decide) rfl ?_
        refine r_isub (kd99 rfl) rfl ?_
        refine r_callSI (d' := d - 1) (by omega) (kd99 rfl) (by decide) rfl rfl rfl rfl (Nat.le_of_ble_eq_true rfl) rfl L69 (Nat.le_of_ble_eq_true rfl) (Nat.le_of_ble_eq_true rfl) (Nat.zero_le _) (Nat.zero_le _) rfl rfl rfl (b_Program_kindIn (by omega) h) (fun x1 M1 h => ?_)
        refine r_goto (kd99 rfl) ?_
        exact (b_Verifier_findBehind_105 hd h).less (e_sc (List.mem_of_getElem? (i := 3) rfl) (e_sc (List.mem_of_getElem? (i := 4) rfl) (e_sc (List.mem_of_getElem? (i := 5) rfl) (e_sc (List.mem_of_getElem? (i := 2) rfl) (e_sc (List.mem_of_getElem? (i := 1) rfl) (e_sc (List.mem_of_getElem? (i := 0) rfl) e_sn))))))
    · have h := h.2 c
      exact (b_Verifier_findBehind_75 hd h).less (e_sc (List.mem_of_getElem? (i := 3) rfl) e_sn)
/-- TierMill$Verifier.becomes(IIJJ)V -/
theorem kd107 {pc : Nat} {q : eI} (h : e_d107.lookup pc = some q) : e_dec 107 pc = some q := h
theorem L107 : (e_m 107).2.2.1 = 7 := rfl
theorem R107 : (e_m 107).2.2.2.1 = none := rfl
def w_Verifier_becomes (l0 : Nat) (l1 : Int32) (l2 : Int32) (l3 : Int64) (l5 : Int64) (M : eM) (Q : eM → Prop) : Prop := e_ob M l0 10 ∧ e_ob M (gr M l0 3) 6 ∧ e_ar M (gr M (gr M l0 3) 15) 20 l1 ∧ ∀ M1 : eM, M1 = e_si M (gr M (gr M l0 3) 15) l1.toNatClampNeg l2 → e_ob M1 l0 10 ∧ e_ob M1 (gr M1 l0 3) 6 ∧ e_ar M1 (gr M1 (gr M1 l0 3) 16) 21 l1 ∧ ∀ M2 : eM, M2 = e_sl M1 (gr M1 (gr M1 l0 3) 16) l1.toNatClampNeg l3 → e_ob M2 l0 10 ∧ e_ob M2 (gr M2 l0 3) 6 ∧ e_ar M2 (gr M2 (gr M2 l0 3) 17) 21 l1 ∧ ∀ M3 : eM, M3 = e_sl M2 (gr M2 (gr M2 l0 3) 17) l1.toNatClampNeg l5 → e_ob M3 l0 10 ∧ e_ar M3 (gr M3 l0 2) 20 l1 ∧ ∀ M4 : eM, M4 = e_si M3 (gr M3 l0 2) l1.toNatClampNeg 1 → e_ob M4 l0 10 ∧ ((1 : Int32) = 0 ∨ (1 : Int32) = 1) ∧ ∀ M5 : eM, M5 = e_si M4 l0 5 (1 : Int32) → Q M5
theorem b_Verifier_becomes {d : Nat} {l0 : Nat} {l1 : Int32} {l2 : Int32} {l3 : Int64} {l5 : Int64} {M : eM} {Q : eM → Prop} (hd : 0 ≤ d) (h : w_Verifier_becomes l0 l1 l2 l3 l5 M Q) : e_CV 107 d 0 0 [.ref l0, .int l1, .int l2, .long l3, .long l5] M Q := by
  unfold w_Verifier_becomes at h
  show e_E 107 d 0 0 0 [(0, .ref l0), (1, .int l1), (2, .int l2), (3, .long l3), (5, .long l5)] [] M (e_QV Q)
  refine r_aload_n (kd107 rfl) rfl rfl ?_
  obtain ⟨g, h⟩ := h
  refine r_get2 (kd107 rfl) (by decide) rfl g rfl ?_
  obtain ⟨g, h⟩ := h
  refine r_get2 (kd107 rfl) (by decide) rfl g rfl ?_
  refine r_iload_n (kd107 rfl) rfl rfl ?_
  refine r_iload_n (kd107 rfl) rfl rfl ?_
  obtain ⟨g, h⟩ := h
  have h := h _ rfl
  refine r_iastore (kd107 rfl) g rfl ?_
  refine r_aload_n (kd107 rfl) rfl rfl ?_
  obtain ⟨g, h⟩ := h
  refine r_get2 (kd107 rfl) (by decide) rfl g rfl ?_
  obtain ⟨g, h⟩ := h
  refine r_get2 (kd107 rfl) (by decide) rfl g rfl ?_
  refine r_iload_n (kd107 rfl) rfl rfl ?_
  refine r_lload_n (kd107 rfl) rfl rfl ?_
  obtain ⟨g, h⟩ := h
  have h := h _ rfl
  refine r_lastore (kd107 rfl) g rfl ?_
  refine r_aload_n (kd107 rfl) rfl rfl ?_
  obtain ⟨g, h⟩ := h
  refine r_get2 (kd107 rfl) (by decide) rfl g rfl ?_
  obtain ⟨g, h⟩ := h
  refine r_get2 (kd107 rfl) (by decide) rfl g rfl ?_
  refine r_iload_n (kd107 rfl) rfl rfl ?_
  refine r_lload (kd107 rfl) rfl rfl ?_
  obtain ⟨g, h⟩ := h
  have h := h _ rfl
  refine r_lastore (kd107 rfl) g rfl ?_
  refine r_aload_n (kd107 rfl) rfl rfl ?_
  obtain ⟨g, h⟩ := h
  refine r_get2 (kd107 rfl) (by decide) rfl g rfl ?_
  refine r_iload_n (kd107 rfl) rfl rfl ?_
  refine r_iconst (kd107 rfl) (y := 1) (by decide) rfl ?_
  obtain ⟨g, h⟩ := h
  have h := h _ rfl
  refine r_iastore (kd107 rfl) g rfl ?_
  refine r_aload_n (kd107 rfl) rfl rfl ?_
  refine r_iconst (kd107 rfl) (y := 1) (by decide) rfl ?_
  obtain ⟨g, h⟩ := h
  obtain ⟨gb, h⟩ := h
  have h := h _ rfl
  refine r_put3 (kd107 rfl) (by decide) rfl g gb rfl ?_
  exact r_return (kd107 rfl) R107 h
/-- TierMill$Verifier.join(II)I -/
theorem kd109 {pc : Nat} {q : eI} (h : e_d109.lookup pc = some q) : e_dec 109 pc = some q := h
theorem L109 : (e_m 109).2.2.1 = 5 := rfl
theorem R109 : (e_m 109).2.2.2.1 = (some .int) := rfl
def w_Verifier_join_17 (l2 : Int32) (M : eM) (Q : Int32 → eM → Prop) : Prop := Q l2 M
theorem b_Verifier_join_17 {d : Nat} {l2 : Int32} {M : eM} {Q : Int32 → eM → Prop} (hd : 1 ≤ d) (h : w_Verifier_join_17 l2 M Q ) : e_E 109 d 0 0 17 [(2, .int l2)] [] M (e_QI Q) := by
  unfold w_Verifier_join_17 at h
  refine r_iload_n (kd109 rfl) rfl rfl ?_
  exact r_ireturn (kd109 rfl) R109 h
def w_Verifier_join_45 (M : eM) (Q : Int32 → eM → Prop) : Prop := Q (0 : Int32) M
theorem b_Verifier_join_45 {d : Nat} {M : eM} {Q : Int32 → eM → Prop} (hd : 1 ≤ d) (h : w_Verifier_join_45 M Q ) : e_E 109 d 0 0 45 [] [] M (e_QI Q) := by
  unfold w_Verifier_join_45 at h
  refine r_iconst (kd109 rfl) (y := 0) (by decide) rfl ?_
  exact r_ireturn (kd109 rfl) R109 h
def w_Verifier_join_93 : Nat → Int32 → Int32 → eM → (Int32 → eM → Prop) → Prop
  | 0, _, _, _, _ => False
  | n + 1, l3, l4, M, Q => (l4 < 0 → Q (15 : Int32) M) ∧ (¬ l4 < 0 → (((l3 >>> (l4 &&& 31)) &&& 1) = 0 → (fun l3 l4 M => w_Verifier_join_93 n l3 l4 M Q ) l3 (l4 + (-1)) M) ∧ (¬ ((l3 >>> (l4 &&& 31)) &&& 1) = 0 → Q (16 + l4) M))
theorem b_Verifier_join_93 {d : Nat} {Q : Int32 → eM → Prop} (hd : 1 ≤ d) (n : Nat) : ∀ (l3 : Int32) (l4 : Int32) (M : eM), w_Verifier_join_93 n l3 l4 M Q → e_E 109 d 0 0 93 [(3, .int l3), (4, .int l4)] [] M (e_QI Q) := by
  induction n with
  | zero => intro l3 l4 M h; exact False.elim h
  | succ n ih =>
    intro l3 l4 M h
    have hk93 := ih
    refine r_iload (kd109 rfl) rfl rfl ?_
    refine r_if_lt (kd109 rfl) rfl (fun c => ?_) (fun c => ?_)
    · have h := h.1 c
      refine r_bipush (kd109 rfl) (y := 15) (by decide) rfl ?_
      exact r_ireturn (kd109 rfl) R109 h
    · have h := h.2 c
      refine r_iload_n (kd109 rfl) rfl rfl ?_
      refine r_iload (kd109 rfl) rfl rfl ?_
      refine r_ishr (kd109 rfl) rfl ?_
      refine r_iconst (kd109 rfl) (y := 1) (by decide) rfl ?_
      refine r_iand (kd109 rfl) rfl ?_
      refine r_if_eq (kd109 rfl) rfl (fun c => ?_) (fun c => ?_)
      · have h := h.1 c
        refine r_iinc (kd109 rfl) rfl (y := (-1)) (by decide) L109 (by decide) rfl rfl ?_
        refine r_goto (kd109 rfl) ?_
        exact (hk93 _ _ _ h).less (e_sc (List.mem_of_getElem? (i := 1) rfl) (e_sc (List.mem_of_getElem? (i := 0) rfl) e_sn))
      · have h := h.2 c
        refine r_bipush (kd109 rfl) (y := 16) (by decide) rfl ?_
        refine r_iload (kd109 rfl) rfl rfl ?_
        refine r_iadd (kd109 rfl) rfl ?_
        exact r_ireturn (kd109 rfl) R109 h
def w_Verifier_join_88 (s0 : Int32) (M : eM) (Q : Int32 → eM → Prop) : Prop := ∃ n5 : Nat, w_Verifier_join_93 n5 s0 7 M Q
theorem b_Verifier_join_88 {d : Nat} {s0 : Int32} {M : eM} {Q : Int32 → eM → Prop} (hd : 1 ≤ d) (h : w_Verifier_join_88 s0 M Q ) : e_E 109 d 0 0 88 [] [.int s0] M (e_QI Q) := by
  unfold w_Verifier_join_88 at h
  refine r_istore_n (kd109 rfl) L109 (by decide) rfl rfl ?_
  refine r_bipush (kd109 rfl) (y := 7) (by decide) rfl ?_
  refine r_istore (kd109 rfl) L109 (by decide) rfl rfl ?_
  obtain ⟨n, h⟩ := h
  exact (b_Verifier_join_93 hd n _ _ _ h).less (e_sc (List.mem_of_getElem? (i := 1) rfl) (e_sc (List.mem_of_getElem? (i := 0) rfl) e_sn))
def w_Verifier_join_59 (M : eM) (Q : Int32 → eM → Prop) : Prop := w_Verifier_join_88 0 M Q
theorem b_Verifier_join_59 {d : Nat} {M : eM} {Q : Int32 → eM → Prop} (hd : 1 ≤ d) (h : w_Verifier_join_59 M Q ) : e_E 109 d 0 0 59 [] [] M (e_QI Q) := by
  unfold w_Verifier_join_59 at h
  refine r_iconst (kd109 rfl) (y := 0) (by decide) rfl ?_
  refine r_goto (kd109 rfl) ?_
  exact (b_Verifier_join_88 hd h).less e_sn
def w_Verifier_join_33 (l0 : Nat) (l1 : Int32) (l2 : Int32) (M : eM) (Q : Int32 → eM → Prop) : Prop := (l1 < 15 → w_Verifier_join_45 M Q) ∧ (¬ l1 < 15 → (15 ≤ l2 → (l1 = 15 → w_Verifier_join_59 M Q) ∧ (¬ l1 = 15 → (¬ l2 = 15 → e_ob M l0 10 ∧ e_ob M (gr M l0 3) 6 ∧ e_ai M (gr M (gr M l0 3) 4) (l1 - 16) ∧ e_ob M l0 10 ∧ e_ob M (gr M l0 3) 6 ∧ e_ai M (gr M (gr M l0 3) 4) (l2 - 16) ∧ w_Verifier_join_88 ((gi M (gr M (gr M l0 3) 4) (l1 - 16).toNatClampNeg) &&& (gi M (gr M (gr M l0 3) 4) (l2 - 16).toNatClampNeg)) M Q) ∧ (l2 = 15 → w_Verifier_join_59 M Q))) ∧ (¬ 15 ≤ l2 → w_Verifier_join_45 M Q))
theorem b_Verifier_join_33 {d : Nat} {l0 : Nat} {l1 : Int32} {l2 : Int32} {M : eM} {Q : Int32 → eM → Prop} (hd : 1 ≤ d) (h : w_Verifier_join_33 l0 l1 l2 M Q ) : e_E 109 d 0 0 33 [(0, .ref l0), (1, .int l1), (2, .int l2)] [] M (e_QI Q) := by
  unfold w_Verifier_join_33 at h
  refine r_iload_n (kd109 rfl) rfl rfl ?_
  refine r_bipush (kd109 rfl) (y := 15) (by decide) rfl ?_
  refine r_icmp_lt (kd109 rfl) rfl (fun c => ?_) (fun c => ?_)
  · have h := h.1 c
    exact (b_Verifier_join_45 hd h).less e_sn
  · have h := h.2 c
    refine r_iload_n (kd109 rfl) rfl rfl ?_
    refine r_bipush (kd109 rfl) (y := 15) (by decide) rfl ?_
    refine r_icmp_ge (kd109 rfl) rfl (fun c => ?_) (fun c => ?_)
    · have h := h.1 c
      refine r_iload_n (kd109 rfl) rfl rfl ?_
      refine r_bipush (kd109 rfl) (y := 15) (by decide) rfl ?_
      refine r_icmp_eq (kd109 rfl) rfl (fun c => ?_) (fun c => ?_)
      · have h := h.1 c
        exact (b_Verifier_join_59 hd h).less e_sn
      · have h := h.2 c
        refine r_iload_n (kd109 rfl) rfl rfl ?_
        refine r_bipush (kd109 rfl) (y := 15) (by decide) rfl ?_
        refine r_icmp_ne (kd109 rfl) rfl (fun c => ?_) (fun c => ?_)
        · have h := h.1 c
          refine r_aload_n (kd109 rfl) rfl rfl ?_
          obtain ⟨g, h⟩ := h
          refine r_get2 (kd109 rfl) (by decide) rfl g rfl ?_
          obtain ⟨g, h⟩ := h
          refine r_get2 (kd109 rfl) (by decide) rfl g rfl ?_
          refine r_iload_n (kd109 rfl) rfl rfl ?_
          refine r_bipush (kd109 rfl) (y := 16) (by decide) rfl ?_
          refine r_isub (kd109 rfl) rfl ?_
          obtain ⟨g, h⟩ := h
          refine r_iaload (kd109 rfl) g rfl ?_
          refine r_aload_n (kd109 rfl) rfl rfl ?_
          obtain ⟨g, h⟩ := h
          refine r_get2 (kd109 rfl) (by decide) rfl g rfl ?_
          obtain ⟨g, h⟩ := h
          refine r_get2 (kd109 rfl) (by decide) rfl g rfl ?_
          refine r_iload_n (kd109 rfl) rfl rfl ?_
          refine r_bipush (kd109 rfl) (y := 16) (by decide) rfl ?_
          refine r_isub (kd109 rfl) rfl ?_
          obtain ⟨g, h⟩ := h
          refine r_iaload (kd109 rfl) g rfl ?_
          refine r_iand (kd109 rfl) rfl ?_
          exact (b_Verifier_join_88 hd h).less e_sn
        · have h := h.2 c
          exact (b_Verifier_join_59 hd h).less e_sn
    · have h := h.2 c
      exact (b_Verifier_join_45 hd h).less e_sn
def w_Verifier_join_19 (l0 : Nat) (l1 : Int32) (l2 : Int32) (M : eM) (Q : Int32 → eM → Prop) : Prop := (¬ l2 = 3 → w_Verifier_join_33 l0 l1 l2 M Q) ∧ (l2 = 3 → w_Program_isReference l1 M (fun (v4 : Int32) (M3 : eM) => (v4 = 0 → w_Verifier_join_33 l0 l1 l2 M3 Q) ∧ (¬ v4 = 0 → Q l1 M3)))
theorem b_Verifier_join_19 {d : Nat} {l0 : Nat} {l1 : Int32} {l2 : Int32} {M : eM} {Q : Int32 → eM → Prop} (hd : 1 ≤ d) (h : w_Verifier_join_19 l0 l1 l2 M Q ) : e_E 109 d 0 0 19 [(0, .ref l0), (1, .int l1), (2, .int l2)] [] M (e_QI Q) := by
  unfold w_Verifier_join_19 at h
  refine r_iload_n (kd109 rfl) rfl rfl ?_
  refine r_iconst (kd109 rfl) (y := 3) (by decide) rfl ?_
  refine r_icmp_ne (kd109 rfl) rfl (fun c => ?_) (fun c => ?_)
  · have h := h.1 c
    exact (b_Verifier_join_33 hd h).less (e_sc (List.mem_of_getElem? (i := 0) rfl) (e_sc (List.mem_of_getElem? (i := 1) rfl) (e_sc (List.mem_of_getElem? (i := 2) rfl) e_sn)))
  · have h := h.2 c
    refine r_iload_n (kd109 rfl) rfl rfl ?_
    refine r_callSI (d' := d - 1) (by omega) (kd109 rfl) (by decide) rfl rfl rfl rfl (Nat.le_of_ble_eq_true rfl) rfl L70 (Nat.le_of_ble_eq_true rfl) (Nat.le_of_ble_eq_true rfl) (Nat.zero_le _) (Nat.zero_le _) rfl rfl rfl (b_Program_isReference (by omega) h) (fun x1 M1 h => ?_)
    refine r_if_eq (kd109 rfl) rfl (fun c => ?_) (fun c => ?_)
    · have h := h.1 c
      exact (b_Verifier_join_33 hd h).less (e_sc (List.mem_of_getElem? (i := 0) rfl) (e_sc (List.mem_of_getElem? (i := 1) rfl) (e_sc (List.mem_of_getElem? (i := 2) rfl) e_sn)))
    · have h := h.2 c
      refine r_iload_n (kd109 rfl) rfl rfl ?_
      exact r_ireturn (kd109 rfl) R109 h
def w_Verifier_join (l0 : Nat) (l1 : Int32) (l2 : Int32) (M : eM) (Q : Int32 → eM → Prop) : Prop := (l1 = l2 → w_Verifier_join_17 l2 M Q) ∧ (¬ l1 = l2 → (¬ l1 = 3 → w_Verifier_join_19 l0 l1 l2 M Q) ∧ (l1 = 3 → w_Program_isReference l2 M (fun (v2 : Int32) (M1 : eM) => (v2 = 0 → w_Verifier_join_19 l0 l1 l2 M1 Q) ∧ (¬ v2 = 0 → w_Verifier_join_17 l2 M1 Q))))
theorem b_Verifier_join {d : Nat} {l0 : Nat} {l1 : Int32} {l2 : Int32} {M : eM} {Q : Int32 → eM → Prop} (hd : 1 ≤ d) (h : w_Verifier_join l0 l1 l2 M Q) : e_CI 109 d 0 0 [.ref l0, .int l1, .int l2] M Q := by
  unfold w_Verifier_join at h
  show e_E 109 d 0 0 0 [(0, .ref l0), (1, .int l1), (2, .int l2)] [] M (e_QI Q)
  refine r_iload_n (kd109 rfl) rfl rfl ?_
  refine r_iload_n (kd109 rfl) rfl rfl ?_
  refine r_icmp_eq (kd109 rfl) rfl (fun c => ?_) (fun c => ?_)
  · have h := h.1 c
    exact (b_Verifier_join_17 hd h).less (e_sc (List.mem_of_getElem? (i := 2) rfl) e_sn)
  · have h := h.2 c
    refine r_iload_n (kd109 rfl) rfl rfl ?_
    refine r_iconst (kd109 rfl) (y := 3) (by decide) rfl ?_
    refine r_icmp_ne (kd109 rfl) rfl (fun c => ?_) (fun c => ?_)
    · have h := h.1 c
      exact (b_Verifier_join_19 hd h).less (e_sc (List.mem_of_getElem? (i := 0) rfl) (e_sc (List.mem_of_getElem? (i := 1) rfl) (e_sc (List.mem_of_getElem? (i := 2) rfl) e_sn)))
    · have h := h.2 c
      refine r_iload_n (kd109 rfl) rfl rfl ?_
      refine r_callSI (d' := d - 1) (by omega) (kd109 rfl) (by decide) rfl rfl rfl rfl (Nat.le_of_ble_eq_true rfl) rfl L70 (Nat.le_of_ble_eq_true rfl) (Nat.le_of_ble_eq_true rfl) (Nat.zero_le _) (Nat.zero_le _) rfl rfl rfl (b_Program_isReference (by omega) h) (fun x1 M1 h => ?_)
      refine r_if_eq (kd109 rfl) rfl (fun c => ?_) (fun c => ?_)
      · have h := h.1 c
        exact (b_Verifier_join_19 hd h).less (e_sc (List.mem_of_getElem? (i := 0) rfl) (e_sc (List.mem_of_getElem? (i := 1) rfl) (e_sc (List.mem_of_getElem? (i := 2) rfl) e_sn)))
      · have h := h.2 c
        exact (b_Verifier_join_17 hd h).less (e_sc (List.mem_of_getElem? (i := 2) rfl) e_sn)
/-- TierMill$Verifier.joined(JJ)J -/
theorem kd108 {pc : Nat} {q : eI} (h : e_d108.lookup pc = some q) : e_dec 108 pc = some q := h
theorem L108 : (e_m 108).2.2.1 = 8 := rfl
theorem R108 : (e_m 108).2.2.2.1 = (some .long) := rfl
def w_Verifier_joined_14 : Nat → Nat → Int64 → Int64 → Int64 → Int32 → eM → (Int64 → eM → Prop) → Prop
  | 0, _, _, _, _, _, _, _ => False
  | n + 1, l0, l1, l3, l5, l7, M, Q => (8 ≤ l7 → Q l5 M) ∧ (¬ 8 ≤ l7 → w_Program_kindIn l1 l7 M (fun (v3 : Int32) (M2 : eM) => w_Program_kindIn l3 l7 M2 (fun (v5 : Int32) (M4 : eM) => e_ob M4 l0 10 ∧ w_Verifier_join l0 v3 v5 M4 (fun (v7 : Int32) (M6 : eM) => (fun l0 l1 l3 l5 l7 M => w_Verifier_joined_14 n l0 l1 l3 l5 l7 M Q ) l0 l1 l3 (l5 ||| ((v7.toInt64) <<< ((8 * l7).toInt64 &&& 63))) (l7 + 1) M6))))
theorem b_Verifier_joined_14 {d : Nat} {Q : Int64 → eM → Prop} (hd : 2 ≤ d) (n : Nat) : ∀ (l0 : Nat) (l1 : Int64) (l3 : Int64) (l5 : Int64) (l7 : Int32) (M : eM), w_Verifier_joined_14 n l0 l1 l3 l5 l7 M Q → e_E 108 d 0 0 14 [(0, .ref l0), (1, .long l1), (3, .long l3), (5, .long l5), (7, .int l7)] [] M (e_QL Q) := by
  induction n with
  | zero => intro l0 l1 l3 l5 l7 M h; exact False.elim h
  | succ n ih =>
    intro l0 l1 l3 l5 l7 M h
    have hk14 := ih
    refine r_iload (kd108 rfl) rfl rfl ?_
    refine r_bipush (kd108 rfl) (y := 8) (by decide) rfl ?_
    refine r_icmp_ge (kd108 rfl) rfl (fun c => ?_) (fun c => ?_)
    · have h := h.1 c
      refine r_lload (kd108 rfl) rfl rfl ?_
      exact r_lreturn (kd108 rfl) R108 h
    · have h := h.2 c
      refine r_lload (kd108 rfl) rfl rfl ?_
      refine r_aload_n (kd108 rfl) rfl rfl ?_
      refine r_lload_n (kd108 rfl) rfl rfl ?_
      refine r_iload (kd108 rfl) rfl rfl ?_
      refine r_callSI (d' := d - 1) (by omega) (kd108 rfl) (by decide) rfl rfl rfl rfl (Nat.le_of_ble_eq_true rfl) rfl L69 (Nat.le_of_ble_eq_true rfl) (Nat.le_of_ble_eq_true rfl) (Nat.zero_le _) (Nat.zero_le _) rfl rfl rfl (b_Program_kindIn (by omega) h) (fun x1 M1 h => ?_)
      refine r_lload_n (kd108 rfl) rfl rfl ?_
      refine r_iload (kd108 rfl) rfl rfl ?_
      refine r_callSI (d' := d - 1) (by omega) (kd108 rfl) (by decide) rfl rfl rfl rfl (Nat.le_of_ble_eq_true rfl) rfl L69 (Nat.le_of_ble_eq_true rfl) (Nat.le_of_ble_eq_true rfl) (Nat.zero_le _) (Nat.zero_le _) rfl rfl rfl (b_Program_kindIn (by omega) h) (fun x1 M1 h => ?_)
      obtain ⟨g, h⟩ := h
      refine r_callVI (d' := d - 1) (by omega) (kd108 rfl) (by decide) rfl rfl rfl rfl (Nat.le_of_ble_eq_true rfl) rfl L109 (Nat.le_of_ble_eq_true rfl) (Nat.le_of_ble_eq_true rfl) g (Nat.zero_le _) (Nat.zero_le _) rfl rfl rfl (b_Verifier_join (by omega) h) (fun x1 M1 h => ?_)
      refine r_i2l (kd108 rfl) rfl ?_
      refine r_bipush (kd108 rfl) (y := 8) (by decide) rfl ?_
      refine r_iload (kd108 rfl) rfl rfl ?_
      refine r_imul (kd108 rfl) rfl ?_
      refine r_lshl (kd108 rfl) rfl ?_
      refine r_lor (kd108 rfl) rfl ?_
      refine r_lstore (kd108 rfl) L108 (by decide) rfl rfl ?_
      refine r_iinc (kd108 rfl) rfl (y := 1) (by decide) L108 (by decide) rfl rfl ?_
      refine r_goto (kd108 rfl) ?_
      exact (hk14 _ _ _ _ _ _ h).less (e_sc (List.mem_of_getElem? (i := 2) rfl) (e_sc (List.mem_of_getElem? (i := 3) rfl) (e_sc (List.mem_of_getElem? (i := 4) rfl) (e_sc (List.mem_of_getElem? (i := 1) rfl) (e_sc (List.mem_of_getElem? (i := 0) rfl) e_sn)))))
def w_Verifier_joined (l0 : Nat) (l1 : Int64) (l3 : Int64) (M : eM) (Q : Int64 → eM → Prop) : Prop := (¬ (lg_cmp l1 l3) = 0 → ∃ n1 : Nat, w_Verifier_joined_14 n1 l0 l1 l3 0 0 M Q) ∧ ((lg_cmp l1 l3) = 0 → Q l1 M)
theorem b_Verifier_joined {d : Nat} {l0 : Nat} {l1 : Int64} {l3 : Int64} {M : eM} {Q : Int64 → eM → Prop} (hd : 2 ≤ d) (h : w_Verifier_joined l0 l1 l3 M Q) : e_CL 108 d 0 0 [.ref l0, .long l1, .long l3] M Q := by
  unfold w_Verifier_joined at h
  show e_E 108 d 0 0 0 [(0, .ref l0), (1, .long l1), (3, .long l3)] [] M (e_QL Q)
  refine r_lload_n (kd108 rfl) rfl rfl ?_
  refine r_lload_n (kd108 rfl) rfl rfl ?_
  refine r_lcmp (kd108 rfl) rfl ?_
  refine r_if_ne (kd108 rfl) rfl (fun c => ?_) (fun c => ?_)
  · have h := h.1 c
    refine r_lconst (kd108 rfl) (y := 0) (by decide) rfl ?_
    refine r_lstore (kd108 rfl) L108 (by decide) rfl rfl ?_
    refine r_iconst (kd108 rfl) (y := 0) (by decide) rfl ?_
    refine r_istore (kd108 rfl) L108 (by decide) rfl rfl ?_
    obtain ⟨n, h⟩ := h
    exact (b_Verifier_joined_14 hd n _ _ _ _ _ _ h).less (e_sc (List.mem_of_getElem? (i := 2) rfl) (e_sc (List.mem_of_getElem? (i := 3) rfl) (e_sc (List.mem_of_getElem? (i := 4) rfl) (e_sc (List.mem_of_getElem? (i := 1) rfl) (e_sc (List.mem_of_getElem? (i := 0) rfl) e_sn)))))
  · have h := h.2 c
    refine r_lload_n (kd108 rfl) rfl rfl ?_
    exact r_lreturn (kd108 rfl) R108 h
/-- TierMill$Verifier.comeTo(I)V -/
theorem kd106 {pc : Nat} {q : eI} (h : e_d106.lookup pc = some q) : e_dec 106 pc = some q := h
theorem L106 : (e_m 106).2.2.1 = 7 := rfl
theorem R106 : (e_m 106).2.2.2.1 = none := rfl
def w_Verifier_comeTo_142 (M : eM) (Q : eM → Prop) : Prop := Q M
theorem b_Verifier_comeTo_142 {d : Nat} {M : eM} {Q : eM → Prop} (hd : 3 ≤ d) (h : w_Verifier_comeTo_142 M Q ) : e_E 106 d 0 0 142 [] [] M (e_QV Q) := by
  unfold w_Verifier_comeTo_142 at h
  exact r_return (kd106 rfl) R106 h
def w_Verifier_comeTo_133 (l0 : Nat) (l1 : Int32) (l2 : Int32) (l3 : Int64) (l5 : Int64) (M : eM) (Q : eM → Prop) : Prop := e_ob M l0 10 ∧ w_Verifier_becomes l0 l1 l2 l3 l5 M (fun (M7 : eM) => w_Verifier_comeTo_142 M7 Q)
theorem b_Verifier_comeTo_133 {d : Nat} {l0 : Nat} {l1 : Int32} {l2 : Int32} {l3 : Int64} {l5 : Int64} {M : eM} {Q : eM → Prop} (hd : 3 ≤ d) (h : w_Verifier_comeTo_133 l0 l1 l2 l3 l5 M Q ) : e_E 106 d 0 0 133 [(0, .ref l0), (1, .int l1), (2, .int l2), (3, .long l3), (5, .long l5)] [] M (e_QV Q) := by
  unfold w_Verifier_comeTo_133 at h
  refine r_aload_n (kd106 rfl) rfl rfl ?_
  refine r_iload_n (kd106 rfl) rfl rfl ?_
  refine r_iload_n (kd106 rfl) rfl rfl ?_
  refine r_lload_n (kd106 rfl) rfl rfl ?_
  refine r_lload (kd106 rfl) rfl rfl ?_
  obtain ⟨g, h⟩ := h
  refine r_callVV (d' := d - 1) (by omega) (kd106 rfl) (by decide) rfl rfl rfl rfl (Nat.le_of_ble_eq_true rfl) rfl L107 (Nat.le_of_ble_eq_true rfl) (Nat.le_of_ble_eq_true rfl) g (Nat.zero_le _) (Nat.zero_le _) rfl rfl rfl (b_Verifier_becomes (by omega) h) (fun M1 h => ?_)
  exact (b_Verifier_comeTo_142 hd h).less e_sn
def w_Verifier_comeTo_61 (l0 : Nat) (l1 : Int32) (l2 : Int32) (M : eM) (Q : eM → Prop) : Prop := (l2 = (-2) → w_Verifier_comeTo_142 M Q) ∧ (¬ l2 = (-2) → e_ob M l0 10 ∧ e_ob M (gr M l0 3) 6 ∧ e_ar M (gr M (gr M l0 3) 16) 21 l1 ∧ e_ob M l0 10 ∧ e_ob M l0 10 ∧ w_Verifier_joined l0 (gl M (gr M (gr M l0 3) 16) l1.toNatClampNeg) (gl M l0 7) M (fun (v4 : Int64) (M3 : eM) => e_ob M3 l0 10 ∧ e_ob M3 (gr M3 l0 3) 6 ∧ e_ar M3 (gr M3 (gr M3 l0 3) 17) 21 l1 ∧ e_ob M3 l0 10 ∧ e_ob M3 l0 10 ∧ w_Verifier_joined l0 (gl M3 (gr M3 (gr M3 l0 3) 17) l1.toNatClampNeg) (gl M3 l0 8) M3 (fun (v6 : Int64) (M5 : eM) => e_ob M5 l0 10 ∧ e_ob M5 (gr M5 l0 3) 6 ∧ e_ar M5 (gr M5 (gr M5 l0 3) 16) 21 l1 ∧ (¬ (lg_cmp v4 (gl M5 (gr M5 (gr M5 l0 3) 16) l1.toNatClampNeg)) = 0 → w_Verifier_comeTo_133 l0 l1 l2 v4 v6 M5 Q) ∧ ((lg_cmp v4 (gl M5 (gr M5 (gr M5 l0 3) 16) l1.toNatClampNeg)) = 0 → e_ob M5 l0 10 ∧ e_ob M5 (gr M5 l0 3) 6 ∧ e_ar M5 (gr M5 (gr M5 l0 3) 17) 21 l1 ∧ ((lg_cmp v6 (gl M5 (gr M5 (gr M5 l0 3) 17) l1.toNatClampNeg)) = 0 → w_Verifier_comeTo_142 M5 Q) ∧ (¬ (lg_cmp v6 (gl M5 (gr M5 (gr M5 l0 3) 17) l1.toNatClampNeg)) = 0 → w_Verifier_comeTo_133 l0 l1 l2 v4 v6 M5 Q)))))
theorem b_Verifier_comeTo_61 {d : Nat} {l0 : Nat} {l1 : Int32} {l2 : Int32} {M : eM} {Q : eM → Prop} (hd : 3 ≤ d) (h : w_Verifier_comeTo_61 l0 l1 l2 M Q ) : e_E 106 d 0 0 61 [(0, .ref l0), (1, .int l1), (2, .int l2)] [] M (e_QV Q) := by
  unfold w_Verifier_comeTo_61 at h
  refine r_iload_n (kd106 rfl) rfl rfl ?_
  refine r_bipush (kd106 rfl) (y := (-2)) (by decide) rfl ?_
  refine r_icmp_eq (kd106 rfl) rfl (fun c => ?_) (fun c => ?_)
  · have h := h.1 c
    exact (b_Verifier_comeTo_142 hd h).less e_sn
  · have h := h.2 c
    refine r_aload_n (kd106 rfl) rfl rfl ?_
    refine r_aload_n (kd106 rfl) rfl rfl ?_
    obtain ⟨g, h⟩ := h
    refine r_get2 (kd106 rfl) (by decide) rfl g rfl ?_
    obtain ⟨g, h⟩ := h
    refine r_get2 (kd106 rfl) (by decide) rfl g rfl ?_
    refine r_iload_n (kd106 rfl) rfl rfl ?_
    obtain ⟨g, h⟩ := h
    refine r_laload (kd106 rfl) g rfl ?_
    refine r_aload_n (kd106 rfl) rfl rfl ?_
    obtain ⟨g, h⟩ := h
    refine r_get1 (kd106 rfl) (by decide) rfl g rfl ?_
    obtain ⟨g, h⟩ := h
    refine r_callVL (d' := d - 1) (by omega) (kd106 rfl) (by decide) rfl rfl rfl rfl (Nat.le_of_ble_eq_true rfl) rfl L108 (Nat.le_of_ble_eq_true rfl) (Nat.le_of_ble_eq_true rfl) g (Nat.zero_le _) (Nat.zero_le _) rfl rfl rfl (b_Verifier_joined (by omega) h) (fun x1 M1 h => ?_)
    refine r_lstore_n (kd106 rfl) L106 (by decide) rfl rfl ?_
    refine r_aload_n (kd106 rfl) rfl rfl ?_
    refine r_aload_n (kd106 rfl) rfl rfl ?_
    obtain ⟨g, h⟩ := h
    refine r_get2 (kd106 rfl) (by decide) rfl g rfl ?_
    obtain ⟨g, h⟩ := h
    refine r_get2 (kd106 rfl) (by decide) rfl g rfl ?_
    refine r_iload_n (kd106 rfl) rfl rfl ?_
    obtain ⟨g, h⟩ := h
    refine r_laload (kd106 rfl) g rfl ?_
    refine r_aload_n (kd106 rfl) rfl rfl ?_
    obtain ⟨g, h⟩ := h
    refine r_get1 (kd106 rfl) (by decide) rfl g rfl ?_
    obtain ⟨g, h⟩ := h
    refine r_callVL (d' := d - 1) (by omega) (kd106 rfl) (by decide) rfl rfl rfl rfl (Nat.le_of_ble_eq_true rfl) rfl L108 (Nat.le_of_ble_eq_true rfl) (Nat.le_of_ble_eq_true rfl) g (Nat.zero_le _) (Nat.zero_le _) rfl rfl rfl (b_Verifier_joined (by omega) h) (fun x1 M1 h => ?_)
    refine r_lstore (kd106 rfl) L106 (by decide) rfl rfl ?_
    refine r_lload_n (kd106 rfl) rfl rfl ?_
    refine r_aload_n (kd106 rfl) rfl rfl ?_
    obtain ⟨g, h⟩ := h
    refine r_get2 (kd106 rfl) (by decide) rfl g rfl ?_
    obtain ⟨g, h⟩ := h
    refine r_get2 (kd106 rfl) (by decide) rfl g rfl ?_
    refine r_iload_n (kd106 rfl) rfl rfl ?_
    obtain ⟨g, h⟩ := h
    refine r_laload (kd106 rfl) g rfl ?_
    refine r_lcmp (kd106 rfl) rfl ?_
    refine r_if_ne (kd106 rfl) rfl (fun c => ?_) (fun c => ?_)
    · have h := h.1 c
      exact (b_Verifier_comeTo_133 hd h).less (e_sc (List.mem_of_getElem? (i := 2) rfl) (e_sc (List.mem_of_getElem? (i := 3) rfl) (e_sc (List.mem_of_getElem? (i := 4) rfl) (e_sc (List.mem_of_getElem? (i := 1) rfl) (e_sc (List.mem_of_getElem? (i := 0) rfl) e_sn)))))
    · have h := h.2 c
      refine r_lload (kd106 rfl) rfl rfl ?_
      refine r_aload_n (kd106 rfl) rfl rfl ?_
      obtain ⟨g, h⟩ := h
      refine r_get2 (kd106 rfl) (by decide) rfl g rfl ?_
      obtain ⟨g, h⟩ := h
      refine r_get2 (kd106 rfl) (by decide) rfl g rfl ?_
      refine r_iload_n (kd106 rfl) rfl rfl ?_
      obtain ⟨g, h⟩ := h
      refine r_laload (kd106 rfl) g rfl ?_
      refine r_lcmp (kd106 rfl) rfl ?_
      refine r_if_eq (kd106 rfl) rfl (fun c => ?_) (fun c => ?_)
      · have h := h.1 c
        exact (b_Verifier_comeTo_142 hd h).less e_sn
      · have h := h.2 c
        exact (b_Verifier_comeTo_133 hd h).less (e_sc (List.mem_of_getElem? (i := 2) rfl) (e_sc (List.mem_of_getElem? (i := 3) rfl) (e_sc (List.mem_of_getElem? (i := 4) rfl) (e_sc (List.mem_of_getElem? (i := 1) rfl) (e_sc (List.mem_of_getElem? (i := 0) rfl) e_sn)))))
def w_Verifier_comeTo (l0 : Nat) (l1 : Int32) (M : eM) (Q : eM → Prop) : Prop := e_ob M l0 10 ∧ e_ob M (gr M l0 3) 6 ∧ e_ai M (gr M (gr M l0 3) 15) l1 ∧ (¬ (gi M (gr M (gr M l0 3) 15) l1.toNatClampNeg) = (-1) → ((gi M (gr M (gr M l0 3) 15) l1.toNatClampNeg) = (-2) → w_Verifier_comeTo_61 l0 l1 (gi M (gr M (gr M l0 3) 15) l1.toNatClampNeg) M Q) ∧ (¬ (gi M (gr M (gr M l0 3) 15) l1.toNatClampNeg) = (-2) → e_ob M l0 10 ∧ ((gi M (gr M (gr M l0 3) 15) l1.toNatClampNeg) = (gi M l0 6) → w_Verifier_comeTo_61 l0 l1 (gi M (gr M (gr M l0 3) 15) l1.toNatClampNeg) M Q) ∧ (¬ (gi M (gr M (gr M l0 3) 15) l1.toNatClampNeg) = (gi M l0 6) → e_ob M l0 10 ∧ w_Verifier_becomes l0 l1 (-2) 0 0 M (fun (M1 : eM) => w_Verifier_comeTo_142 M1 Q)))) ∧ ((gi M (gr M (gr M l0 3) 15) l1.toNatClampNeg) = (-1) → e_ob M l0 10 ∧ e_ob M l0 10 ∧ e_ob M l0 10 ∧ e_ob M l0 10 ∧ w_Verifier_becomes l0 l1 (gi M l0 6) (gl M l0 7) (gl M l0 8) M (fun (M2 : eM) => w_Verifier_comeTo_142 M2 Q))
theorem b_Verifier_comeTo {d : Nat} {l0 : Nat} {l1 : Int32} {M : eM} {Q : eM → Prop} (hd : 3 ≤ d) (h : w_Verifier_comeTo l0 l1 M Q) : e_CV 106 d 0 0 [.ref l0, .int l1] M Q := by
  unfold w_Verifier_comeTo at h
  show e_E 106 d 0 0 0 [(0, .ref l0), (1, .int l1)] [] M (e_QV Q)
  refine r_aload_n (kd106 rfl) rfl rfl ?_
  obtain ⟨g, h⟩ := h
  refine r_get2 (kd106 rfl) (by decide) rfl g rfl ?_
  obtain ⟨g, h⟩ := h
  refine r_get2 (kd106 rfl) (by decide) rfl g rfl ?_
  refine r_iload_n (kd106 rfl) rfl rfl ?_
  obtain ⟨g, h⟩ := h
  refine r_iaload (kd106 rfl) g rfl ?_
  refine r_istore_n (kd106 rfl) L106 (by decide) rfl rfl ?_
  refine r_iload_n (kd106 rfl) rfl rfl ?_
  refine r_iconst (kd106 rfl) (y := (-1)) (by decide) rfl ?_
  refine r_icmp_ne (kd106 rfl) rfl (fun c => ?_) (fun c => ?_)
  · have h := h.1 c
    refine r_iload_n (kd106 rfl) rfl rfl ?_
    refine r_bipush (kd106 rfl) (y := (-2)) (by decide) rfl ?_
    refine r_icmp_eq (kd106 rfl) rfl (fun c => ?_) (fun c => ?_)
    · have h := h.1 c
      exact (b_Verifier_comeTo_61 hd h).less (e_sc (List.mem_of_getElem? (i := 1) rfl) (e_sc (List.mem_of_getElem? (i := 2) rfl) (e_sc (List.mem_of_getElem? (i := 0) rfl) e_sn)))
    · have h := h.2 c
      refine r_iload_n (kd106 rfl) rfl rfl ?_
      refine r_aload_n (kd106 rfl) rfl rfl ?_
      obtain ⟨g, h⟩ := h
      refine r_get0 (kd106 rfl) (by decide) rfl g rfl ?_
      refine r_icmp_eq (kd106 rfl) rfl (fun c => ?_) (fun c => ?_)
      · have h := h.1 c
        exact (b_Verifier_comeTo_61 hd h).less (e_sc (List.mem_of_getElem? (i := 1) rfl) (e_sc (List.mem_of_getElem? (i := 2) rfl) (e_sc (List.mem_of_getElem? (i := 0) rfl) e_sn)))
      · have h := h.2 c
        refine r_aload_n (kd106 rfl) rfl rfl ?_
        refine r_iload_n (kd106 rfl) rfl rfl ?_
        refine r_bipush (kd106 rfl) (y := (-2)) (by decide) rfl ?_
        refine r_lconst (kd106 rfl) (y := 0) (by decide) rfl ?_
        refine r_lconst (kd106 rfl) (y := 0) (by decide) rfl ?_
        obtain ⟨g, h⟩ := h
        refine r_callVV (d' := d - 1) (by omega) (kd106 rfl) (by decide) rfl rfl rfl rfl (Nat.le_of_ble_eq_true rfl) rfl L107 (Nat.le_of_ble_eq_true rfl) (Nat.le_of_ble_eq_true rfl) g (Nat.zero_le _) (Nat.zero_le _) rfl rfl rfl (b_Verifier_becomes (by omega) h) (fun M1 h => ?_)
        refine r_goto (kd106 rfl) ?_
        exact (b_Verifier_comeTo_142 hd h).less e_sn
  · have h := h.2 c
    refine r_aload_n (kd106 rfl) rfl rfl ?_
    refine r_iload_n (kd106 rfl) rfl rfl ?_
    refine r_aload_n (kd106 rfl) rfl rfl ?_
    obtain ⟨g, h⟩ := h
    refine r_get0 (kd106 rfl) (by decide) rfl g rfl ?_
    refine r_aload_n (kd106 rfl) rfl rfl ?_
    obtain ⟨g, h⟩ := h
    refine r_get1 (kd106 rfl) (by decide) rfl g rfl ?_
    refine r_aload_n (kd106 rfl) rfl rfl ?_
    obtain ⟨g, h⟩ := h
    refine r_get1 (kd106 rfl) (by decide) rfl g rfl ?_
    obtain ⟨g, h⟩ := h
    refine r_callVV (d' := d - 1) (by omega) (kd106 rfl) (by decide) rfl rfl rfl rfl (Nat.le_of_ble_eq_true rfl) rfl L107 (Nat.le_of_ble_eq_true rfl) (Nat.le_of_ble_eq_true rfl) g (Nat.zero_le _) (Nat.zero_le _) rfl rfl rfl (b_Verifier_becomes (by omega) h) (fun M1 h => ?_)
    refine r_goto (kd106 rfl) ?_
    exact (b_Verifier_comeTo_142 hd h).less e_sn
/-- TierMill$Verifier.goBehind(I)V -/
theorem kd98 {pc : Nat} {q : eI} (h : e_d98.lookup pc = some q) : e_dec 98 pc = some q := h
theorem L98 : (e_m 98).2.2.1 = 5 := rfl
theorem R98 : (e_m 98).2.2.2.1 = none := rfl
def w_Verifier_goBehind_28 (M : eM) (Q : eM → Prop) : Prop := Q M
theorem b_Verifier_goBehind_28 {d : Nat} {M : eM} {Q : eM → Prop} (hd : 4 ≤ d) (h : w_Verifier_goBehind_28 M Q ) : e_E 98 d 0 0 28 [] [] M (e_QV Q) := by
  unfold w_Verifier_goBehind_28 at h
  exact r_return (kd98 rfl) R98 h
def w_Verifier_goBehind_50 : Nat → Nat → Int32 → Int32 → Int32 → eM → (eM → Prop) → Prop
  | 0, _, _, _, _, _, _ => False
  | n + 1, l0, l1, l3, l4, M, Q => (l3 < l4 → Q M) ∧ (¬ l3 < l4 → e_ob M l0 10 ∧ e_ob M (gr M l0 4) 8 ∧ e_ob M l0 10 ∧ e_ob M (gr M l0 3) 6 ∧ e_ai M (gr M (gr M l0 3) 0) ((l1 + 2) + l4) ∧ e_ob M l0 10 ∧ w_Verifier_comeTo l0 ((gi M (gr M l0 4) 5) + (gi M (gr M (gr M l0 3) 0) ((l1 + 2) + l4).toNatClampNeg)) M (fun (M4 : eM) => (fun l0 l1 l3 l4 M => w_Verifier_goBehind_50 n l0 l1 l3 l4 M Q ) l0 l1 l3 (l4 + 1) M4))
theorem b_Verifier_goBehind_50 {d : Nat} {Q : eM → Prop} (hd : 4 ≤ d) (n : Nat) : ∀ (l0 : Nat) (l1 : Int32) (l3 : Int32) (l4 : Int32) (M : eM), w_Verifier_goBehind_50 n l0 l1 l3 l4 M Q → e_E 98 d 0 0 50 [(0, .ref l0), (1, .int l1), (3, .int l3), (4, .int l4)] [] M (e_QV Q) := by
  induction n with
  | zero => intro l0 l1 l3 l4 M h; exact False.elim h
  | succ n ih =>
    intro l0 l1 l3 l4 M h
    have hk50 := ih
    refine r_iload (kd98 rfl) rfl rfl ?_
    refine r_iload_n (kd98 rfl) rfl rfl ?_
    refine r_icmp_gt (kd98 rfl) rfl (fun c => ?_) (fun c => ?_)
    · have h := h.1 c
      exact r_return (kd98 rfl) R98 h
    · have h := h.2 c
      refine r_aload_n (kd98 rfl) rfl rfl ?_
      refine r_aload_n (kd98 rfl) rfl rfl ?_
      obtain ⟨g, h⟩ := h
      refine r_get2 (kd98 rfl) (by decide) rfl g rfl ?_
      obtain ⟨g, h⟩ := h
      refine r_get0 (kd98 rfl) (by decide) rfl g rfl ?_
      refine r_aload_n (kd98 rfl) rfl rfl ?_
      obtain ⟨g, h⟩ := h
      refine r_get2 (kd98 rfl) (by decide) rfl g rfl ?_
      obtain ⟨g, h⟩ := h
      refine r_get2 (kd98 rfl) (by decide) rfl g rfl ?_
      refine r_iload_n (kd98 rfl) rfl rfl ?_
      refine r_iconst (kd98 rfl) (y := 2) (by decide) rfl ?_
      refine r_iadd (kd98 rfl) rfl ?_
      refine r_iload (kd98 rfl) rfl rfl ?_
      refine r_iadd (kd98 rfl) rfl ?_
      obtain ⟨g, h⟩ := h
      refine r_iaload (kd98 rfl) g rfl ?_
      refine r_iadd (kd98 rfl) rfl ?_
      obtain ⟨g, h⟩ := h
      refine r_callVV (d' := d - 1) (by omega) (kd98 rfl) (by decide) rfl rfl rfl rfl (Nat.le_of_ble_eq_true rfl) rfl L106 (Nat.le_of_ble_eq_true rfl) (Nat.le_of_ble_eq_true rfl) g (Nat.zero_le _) (Nat.zero_le _) rfl rfl rfl (b_Verifier_comeTo (by omega) h) (fun M1 h => ?_)
      refine r_iinc (kd98 rfl) rfl (y := 1) (by decide) L98 (by decide) rfl rfl ?_
      refine r_goto (kd98 rfl) ?_
      exact (hk50 _ _ _ _ _ h).less (e_sc (List.mem_of_getElem? (i := 1) rfl) (e_sc (List.mem_of_getElem? (i := 2) rfl) (e_sc (List.mem_of_getElem? (i := 3) rfl) (e_sc (List.mem_of_getElem? (i := 0) rfl) e_sn))))
def w_Verifier_goBehind_145 (M : eM) (Q : eM → Prop) : Prop := Q M
theorem b_Verifier_goBehind_145 {d : Nat} {M : eM} {Q : eM → Prop} (hd : 4 ≤ d) (h : w_Verifier_goBehind_145 M Q ) : e_E 98 d 0 0 145 [] [] M (e_QV Q) := by
  unfold w_Verifier_goBehind_145 at h
  exact r_return (kd98 rfl) R98 h
def w_Verifier_goBehind_124 (l0 : Nat) (l1 : Int32) (l2 : Int32) (M : eM) (Q : eM → Prop) : Prop := (l2 = 21 → w_Verifier_goBehind_145 M Q) ∧ (¬ l2 = 21 → e_ob M l0 10 ∧ e_ob M (gr M l0 3) 6 ∧ e_ai M (gr M (gr M l0 3) 12) l1 ∧ e_ob M l0 10 ∧ w_Verifier_comeTo l0 (l1 + (gi M (gr M (gr M l0 3) 12) l1.toNatClampNeg)) M (fun (M5 : eM) => w_Verifier_goBehind_145 M5 Q))
theorem b_Verifier_goBehind_124 {d : Nat} {l0 : Nat} {l1 : Int32} {l2 : Int32} {M : eM} {Q : eM → Prop} (hd : 4 ≤ d) (h : w_Verifier_goBehind_124 l0 l1 l2 M Q ) : e_E 98 d 0 0 124 [(0, .ref l0), (1, .int l1), (2, .int l2)] [] M (e_QV Q) := by
  unfold w_Verifier_goBehind_124 at h
  refine r_iload_n (kd98 rfl) rfl rfl ?_
  refine r_bipush (kd98 rfl) (y := 21) (by decide) rfl ?_
  refine r_icmp_eq (kd98 rfl) rfl (fun c => ?_) (fun c => ?_)
  · have h := h.1 c
    exact (b_Verifier_goBehind_145 hd h).less e_sn
  · have h := h.2 c
    refine r_aload_n (kd98 rfl) rfl rfl ?_
    refine r_iload_n (kd98 rfl) rfl rfl ?_
    refine r_aload_n (kd98 rfl) rfl rfl ?_
    obtain ⟨g, h⟩ := h
    refine r_get2 (kd98 rfl) (by decide) rfl g rfl ?_
    obtain ⟨g, h⟩ := h
    refine r_get2 (kd98 rfl) (by decide) rfl g rfl ?_
    refine r_iload_n (kd98 rfl) rfl rfl ?_
    obtain ⟨g, h⟩ := h
    refine r_iaload (kd98 rfl) g rfl ?_
    refine r_iadd (kd98 rfl) rfl ?_
    obtain ⟨g, h⟩ := h
    refine r_callVV (d' := d - 1) (by omega) (kd98 rfl) (by decide) rfl rfl rfl rfl (Nat.le_of_ble_eq_true rfl) rfl L106 (Nat.le_of_ble_eq_true rfl) (Nat.le_of_ble_eq_true rfl) g (Nat.zero_le _) (Nat.zero_le _) rfl rfl rfl (b_Verifier_comeTo (by omega) h) (fun M1 h => ?_)
    exact (b_Verifier_goBehind_145 hd h).less e_sn
def w_Verifier_goBehind (l0 : Nat) (l1 : Int32) (M : eM) (Q : eM → Prop) : Prop := e_ob M l0 10 ∧ e_ob M (gr M l0 3) 6 ∧ e_ai M (gr M (gr M l0 3) 0) l1 ∧ e_ob M l0 10 ∧ w_Verifier_findBehind l0 l1 (gi M (gr M (gr M l0 3) 0) l1.toNatClampNeg) M (fun (M1 : eM) => ((gi M (gr M (gr M l0 3) 0) l1.toNatClampNeg) = 49 → w_Verifier_goBehind_28 M1 Q) ∧ (¬ (gi M (gr M (gr M l0 3) 0) l1.toNatClampNeg) = 49 → (¬ (gi M (gr M (gr M l0 3) 0) l1.toNatClampNeg) = 50 → (¬ (gi M (gr M (gr M l0 3) 0) l1.toNatClampNeg) = 53 → ((gi M (gr M (gr M l0 3) 0) l1.toNatClampNeg) < 21 → w_Verifier_goBehind_124 l0 l1 (gi M (gr M (gr M l0 3) 0) l1.toNatClampNeg) M1 Q) ∧ (¬ (gi M (gr M (gr M l0 3) 0) l1.toNatClampNeg) < 21 → (37 < (gi M (gr M (gr M l0 3) 0) l1.toNatClampNeg) → w_Verifier_goBehind_124 l0 l1 (gi M (gr M (gr M l0 3) 0) l1.toNatClampNeg) M1 Q) ∧ (¬ 37 < (gi M (gr M (gr M l0 3) 0) l1.toNatClampNeg) → e_ob M1 l0 10 ∧ e_ob M1 (gr M1 l0 4) 8 ∧ e_ob M1 l0 10 ∧ e_ob M1 (gr M1 l0 3) 6 ∧ e_ai M1 (gr M1 (gr M1 l0 3) 0) (l1 + 1) ∧ e_ob M1 l0 10 ∧ w_Verifier_comeTo l0 ((gi M1 (gr M1 l0 4) 5) + (gi M1 (gr M1 (gr M1 l0 3) 0) (l1 + 1).toNatClampNeg)) M1 (fun (M2 : eM) => w_Verifier_goBehind_124 l0 l1 (gi M (gr M (gr M l0 3) 0) l1.toNatClampNeg) M2 Q)))) ∧ ((gi M (gr M (gr M l0 3) 0) l1.toNatClampNeg) = 53 → e_ob M1 l0 10 ∧ e_ob M1 (gr M1 l0 3) 6 ∧ e_ai M1 (gr M1 (gr M1 l0 3) 0) (l1 + 1) ∧ ∃ n3 : Nat, w_Verifier_goBehind_50 n3 l0 l1 (gi M1 (gr M1 (gr M1 l0 3) 0) (l1 + 1).toNatClampNeg) 0 M1 Q)) ∧ ((gi M (gr M (gr M l0 3) 0) l1.toNatClampNeg) = 50 → w_Verifier_goBehind_28 M1 Q)))
theorem b_Verifier_goBehind {d : Nat} {l0 : Nat} {l1 : Int32} {M : eM} {Q : eM → Prop} (hd : 4 ≤ d) (h : w_Verifier_goBehind l0 l1 M Q) : e_CV 98 d 0 0 [.ref l0, .int l1] M Q := by
  unfold w_Verifier_goBehind at h
  show e_E 98 d 0 0 0 [(0, .ref l0), (1, .int l1)] [] M (e_QV Q)
  refine r_aload_n (kd98 rfl) rfl rfl ?_
  obtain ⟨g, h⟩ := h
  refine r_get2 (kd98 rfl) (by decide) rfl g rfl ?_
  obtain ⟨g, h⟩ := h
  refine r_get2 (kd98 rfl) (by decide) rfl g rfl ?_
  refine r_iload_n (kd98 rfl) rfl rfl ?_
  obtain ⟨g, h⟩ := h
  refine r_iaload (kd98 rfl) g rfl ?_
  refine r_istore_n (kd98 rfl) L98 (by decide) rfl rfl ?_
  refine r_aload_n (kd98 rfl) rfl rfl ?_
  refine r_iload_n (kd98 rfl) rfl rfl ?_
  refine r_iload_n (kd98 rfl) rfl rfl ?_
  obtain ⟨g, h⟩ := h
  refine r_callVV (d' := d - 1) (by omega) (kd98 rfl) (by decide) rfl rfl rfl rfl (Nat.le_of_ble_eq_true rfl) rfl L99 (Nat.le_of_ble_eq_true rfl) (Nat.le_of_ble_eq_true rfl) g (Nat.zero_le _) (Nat.zero_le _) rfl rfl rfl (b_Verifier_findBehind (by omega) h) (fun M1 h => ?_)
  refine r_iload_n (kd98 rfl) rfl rfl ?_
  refine r_bipush (kd98 rfl) (y := 49) (by decide) rfl ?_
  refine r_icmp_eq (kd98 rfl) rfl (fun c => ?_) (fun c => ?_)
  · have h := h.1 c
    exact (b_Verifier_goBehind_28 hd h).less e_sn
  · have h := h.2 c
    refine r_iload_n (kd98 rfl) rfl rfl ?_
    refine r_bipush (kd98 rfl) (y := 50) (by decide) rfl ?_
    refine r_icmp_ne (kd98 rfl) rfl (fun c => ?_) (fun c => ?_)
    · have h := h.1 c
      refine r_iload_n (kd98 rfl) rfl rfl ?_
      refine r_bipush (kd98 rfl) (y := 53) (by decide) rfl ?_
      refine r_icmp_ne (kd98 rfl) rfl (fun c => ?_) (fun c => ?_)
      · have h := h.1 c
        refine r_iload_n (kd98 rfl) rfl rfl ?_
        refine r_bipush (kd98 rfl) (y := 21) (by decide) rfl ?_
        refine r_icmp_lt (kd98 rfl) rfl (fun c => ?_) (fun c => ?_)
        · have h := h.1 c
          exact (b_Verifier_goBehind_124 hd h).less (e_sc (List.mem_of_getElem? (i := 1) rfl) (e_sc (List.mem_of_getElem? (i := 2) rfl) (e_sc (List.mem_of_getElem? (i := 0) rfl) e_sn)))
        · have h := h.2 c
          refine r_iload_n (kd98 rfl) rfl rfl ?_
          refine r_bipush (kd98 rfl) (y := 37) (by decide) rfl ?_
          refine r_icmp_gt (kd98 rfl) rfl (fun c => ?_) (fun c => ?_)
          · have h := h.1 c
            exact (b_Verifier_goBehind_124 hd h).less (e_sc (List.mem_of_getElem? (i := 1) rfl) (e_sc (List.mem_of_getElem? (i := 2) rfl) (e_sc (List.mem_of_getElem? (i := 0) rfl) e_sn)))
          · have h := h.2 c
            refine r_aload_n (kd98 rfl) rfl rfl ?_
            refine r_aload_n (kd98 rfl) rfl rfl ?_
            obtain ⟨g, h⟩ := h
            refine r_get2 (kd98 rfl) (by decide) rfl g rfl ?_
            obtain ⟨g, h⟩ := h
            refine r_get0 (kd98 rfl) (by decide) rfl g rfl ?_
            refine r_aload_n (kd98 rfl) rfl rfl ?_
            obtain ⟨g, h⟩ := h
            refine r_get2 (kd98 rfl) (by decide) rfl g rfl ?_
            obtain ⟨g, h⟩ := h
            refine r_get2 (kd98 rfl) (by decide) rfl g rfl ?_
            refine r_iload_n (kd98 rfl) rfl rfl ?_
            refine r_iconst (kd98 rfl) (y := 1) (by decide) rfl ?_
            refine r_iadd (kd98 rfl) rfl ?_
            obtain ⟨g, h⟩ := h
            refine r_iaload (kd98 rfl) g rfl ?_
            refine r_iadd (kd98 rfl) rfl ?_
            obtain ⟨g, h⟩ := h
            refine r_callVV (d' := d - 1) (by omega) (kd98 rfl) (by decide) rfl rfl rfl rfl (Nat.le_of_ble_eq_true rfl) rfl L106 (Nat.le_of_ble_eq_true rfl) (Nat.le_of_ble_eq_true rfl) g (Nat.zero_le _) (Nat.zero_le _) rfl rfl rfl (b_Verifier_comeTo (by omega) h) (fun M1 h => ?_)
            exact (b_Verifier_goBehind_124 hd h).less (e_sc (List.mem_of_getElem? (i := 1) rfl) (e_sc (List.mem_of_getElem? (i := 2) rfl) (e_sc (List.mem_of_getElem? (i := 0) rfl) e_sn)))
      · have h := h.2 c
        refine r_aload_n (kd98 rfl) rfl rfl ?_
        obtain ⟨g, h⟩ := h
        refine r_get2 (kd98 rfl) (by decide) rfl g rfl ?_
        obtain ⟨g, h⟩ := h
        refine r_get2 (kd98 rfl) (by decide) rfl g rfl ?_
        refine r_iload_n (kd98 rfl) rfl rfl ?_
        refine r_iconst (kd98 rfl) (y := 1) (by decide) rfl ?_
        refine r_iadd (kd98 rfl) rfl ?_
        obtain ⟨g, h⟩ := h
        refine r_iaload (kd98 rfl) g rfl ?_
        refine r_istore_n (kd98 rfl) L98 (by decide) rfl rfl ?_
        refine r_iconst (kd98 rfl) (y := 0) (by decide) rfl ?_
        refine r_istore (kd98 rfl) L98 (by decide) rfl rfl ?_
        obtain ⟨n, h⟩ := h
        exact (b_Verifier_goBehind_50 hd n _ _ _ _ _ h).less (e_sc (List.mem_of_getElem? (i := 3) rfl) (e_sc (List.mem_of_getElem? (i := 4) rfl) (e_sc (List.mem_of_getElem? (i := 1) rfl) (e_sc (List.mem_of_getElem? (i := 0) rfl) e_sn))))
    · have h := h.2 c
      exact (b_Verifier_goBehind_28 hd h).less e_sn
/-- TierMill$Verifier.flow()V -/
theorem kd97 {pc : Nat} {q : eI} (h : e_d97.lookup pc = some q) : e_dec 97 pc = some q := h
theorem L97 : (e_m 97).2.2.1 = 5 := rfl
theorem R97 : (e_m 97).2.2.2.1 = none := rfl
def w_Verifier_flow_157 (kc ks : Nat) (l0 : Nat) (l1 : Int32) (l2 : Int32) (l3 : Int32) (l4 : Int32) (M : eM) (Q : eM → Prop) (k106 : Nat → Nat → Nat → Int32 → Int32 → Int32 → eM → Prop) (k127 : Nat → Nat → Nat → Int32 → Int32 → Int32 → Int32 → eM → Prop) : Prop := k127 kc ks l0 l1 l2 l3 (l4 + 1) M
theorem b_Verifier_flow_157 {d : Nat} {kc ks : Nat} {l0 : Nat} {l1 : Int32} {l2 : Int32} {l3 : Int32} {l4 : Int32} {M : eM} {Q : eM → Prop} {k106 : Nat → Nat → Nat → Int32 → Int32 → Int32 → eM → Prop} {k127 : Nat → Nat → Nat → Int32 → Int32 → Int32 → Int32 → eM → Prop} (hd : 5 ≤ d) (hk106 : ∀ (kc ks : Nat) (l0 : Nat) (l1 : Int32) (l2 : Int32) (l3 : Int32) (M : eM), k106 kc ks l0 l1 l2 l3 M → e_E 97 d kc ks 106 [(0, .ref l0), (1, .int l1), (2, .int l2), (3, .int l3)] [] M (e_QV Q)) (hk127 : ∀ (kc ks : Nat) (l0 : Nat) (l1 : Int32) (l2 : Int32) (l3 : Int32) (l4 : Int32) (M : eM), k127 kc ks l0 l1 l2 l3 l4 M → e_E 97 d kc ks 127 [(0, .ref l0), (1, .int l1), (2, .int l2), (3, .int l3), (4, .int l4)] [] M (e_QV Q)) (h : w_Verifier_flow_157 kc ks l0 l1 l2 l3 l4 M Q k106 k127) : e_E 97 d kc ks 157 [(0, .ref l0), (1, .int l1), (2, .int l2), (3, .int l3), (4, .int l4)] [] M (e_QV Q) := by
  unfold w_Verifier_flow_157 at h
  refine r_iinc (kd97 rfl) rfl (y := 1) (by decide) L97 (by decide) rfl rfl ?_
  refine r_goto (kd97 rfl) ?_
  exact (hk127 _ _ _ _ _ _ _ _ h).less (e_sc (List.mem_of_getElem? (i := 1) rfl) (e_sc (List.mem_of_getElem? (i := 2) rfl) (e_sc (List.mem_of_getElem? (i := 3) rfl) (e_sc (List.mem_of_getElem? (i := 4) rfl) (e_sc (List.mem_of_getElem? (i := 0) rfl) e_sn)))))
def w_Verifier_flow_127 : Nat → Nat → Nat → Nat → Int32 → Int32 → Int32 → Int32 → eM → (eM → Prop) → (Nat → Nat → Nat → Int32 → Int32 → Int32 → eM → Prop) → Prop
  | 0, _, _, _, _, _, _, _, _, _, _ => False
  | n + 1, kc, ks, l0, l1, l2, l3, l4, M, Q, k106 => (l2 ≤ l4 → k106 kc ks l0 l1 l2 (l3 + 1) M) ∧ (¬ l2 ≤ l4 → e_ob M l0 10 ∧ e_ai M (gr M l0 2) l4 ∧ ((gi M (gr M l0 2) l4.toNatClampNeg) = 0 → w_Verifier_flow_157 kc ks l0 l1 l2 l3 l4 M Q k106 (fun kc ks l0 l1 l2 l3 l4 M => w_Verifier_flow_127 n kc ks l0 l1 l2 l3 l4 M Q k106)) ∧ (¬ (gi M (gr M l0 2) l4.toNatClampNeg) = 0 → e_ob M l0 10 ∧ e_ar M (gr M l0 2) 20 l4 ∧ ∀ M16 : eM, M16 = e_si M (gr M l0 2) l4.toNatClampNeg 0 → e_ob M16 l0 10 ∧ w_Verifier_goBehind l0 l4 M16 (fun (M17 : eM) => w_Verifier_flow_157 kc ks l0 l1 l2 l3 l4 M17 Q k106 (fun kc ks l0 l1 l2 l3 l4 M => w_Verifier_flow_127 n kc ks l0 l1 l2 l3 l4 M Q k106))))
theorem b_Verifier_flow_127 {d : Nat} {Q : eM → Prop} {k106 : Nat → Nat → Nat → Int32 → Int32 → Int32 → eM → Prop} (hd : 5 ≤ d) (n : Nat) (hk106 : ∀ (kc ks : Nat) (l0 : Nat) (l1 : Int32) (l2 : Int32) (l3 : Int32) (M : eM), k106 kc ks l0 l1 l2 l3 M → e_E 97 d kc ks 106 [(0, .ref l0), (1, .int l1), (2, .int l2), (3, .int l3)] [] M (e_QV Q)) : ∀ (kc ks : Nat) (l0 : Nat) (l1 : Int32) (l2 : Int32) (l3 : Int32) (l4 : Int32) (M : eM), w_Verifier_flow_127 n kc ks l0 l1 l2 l3 l4 M Q k106 → e_E 97 d kc ks 127 [(0, .ref l0), (1, .int l1), (2, .int l2), (3, .int l3), (4, .int l4)] [] M (e_QV Q) := by
  induction n with
  | zero => intro kc ks l0 l1 l2 l3 l4 M h; exact False.elim h
  | succ n ih =>
    intro kc ks l0 l1 l2 l3 l4 M h
    have hk127 := ih
    refine r_iload (kd97 rfl) rfl rfl ?_
    refine r_iload_n (kd97 rfl) rfl rfl ?_
    refine r_icmp_ge (kd97 rfl) rfl (fun c => ?_) (fun c => ?_)
    · have h := h.1 c
      refine r_iinc (kd97 rfl) rfl (y := 1) (by decide) L97 (by decide) rfl rfl ?_
      refine r_goto (kd97 rfl) ?_
      exact (hk106 _ _ _ _ _ _ _ h).less (e_sc (List.mem_of_getElem? (i := 1) rfl) (e_sc (List.mem_of_getElem? (i := 2) rfl) (e_sc (List.mem_of_getElem? (i := 3) rfl) (e_sc (List.mem_of_getElem? (i := 0) rfl) e_sn))))
    · have h := h.2 c
      refine r_aload_n (kd97 rfl) rfl rfl ?_
      obtain ⟨g, h⟩ := h
      refine r_get2 (kd97 rfl) (by decide) rfl g rfl ?_
      refine r_iload (kd97 rfl) rfl rfl ?_
      obtain ⟨g, h⟩ := h
      refine r_iaload (kd97 rfl) g rfl ?_
      refine r_if_eq (kd97 rfl) rfl (fun c => ?_) (fun c => ?_)
      · have h := h.1 c
        exact (b_Verifier_flow_157 hd hk106 hk127 h).less (e_sc (List.mem_of_getElem? (i := 0) rfl) (e_sc (List.mem_of_getElem? (i := 1) rfl) (e_sc (List.mem_of_getElem? (i := 2) rfl) (e_sc (List.mem_of_getElem? (i := 3) rfl) (e_sc (List.mem_of_getElem? (i := 4) rfl) e_sn)))))
      · have h := h.2 c
        refine r_aload_n (kd97 rfl) rfl rfl ?_
        obtain ⟨g, h⟩ := h
        refine r_get2 (kd97 rfl) (by decide) rfl g rfl ?_
        refine r_iload (kd97 rfl) rfl rfl ?_
        refine r_iconst (kd97 rfl) (y := 0) (by decide) rfl ?_
        obtain ⟨g, h⟩ := h
        have h := h _ rfl
        refine r_iastore (kd97 rfl) g rfl ?_
        refine r_aload_n (kd97 rfl) rfl rfl ?_
        refine r_iload (kd97 rfl) rfl rfl ?_
        obtain ⟨g, h⟩ := h
        refine r_callVV (d' := d - 1) (by omega) (kd97 rfl) (by decide) rfl rfl rfl rfl (Nat.le_of_ble_eq_true rfl) rfl L98 (Nat.le_of_ble_eq_true rfl) (Nat.le_of_ble_eq_true rfl) g (Nat.zero_le _) (Nat.zero_le _) rfl rfl rfl (b_Verifier_goBehind (by omega) h) (fun M1 h => ?_)
        exact (b_Verifier_flow_157 hd hk106 hk127 h).less (e_sc (List.mem_of_getElem? (i := 0) rfl) (e_sc (List.mem_of_getElem? (i := 1) rfl) (e_sc (List.mem_of_getElem? (i := 2) rfl) (e_sc (List.mem_of_getElem? (i := 3) rfl) (e_sc (List.mem_of_getElem? (i := 4) rfl) e_sn)))))
def w_Verifier_flow_169 (kc ks : Nat) (M : eM) (Q : eM → Prop) : Prop := Q M
theorem b_Verifier_flow_169 {d : Nat} {kc ks : Nat} {M : eM} {Q : eM → Prop} (hd : 5 ≤ d) (h : w_Verifier_flow_169 kc ks M Q ) : e_E 97 d kc ks 169 [] [] M (e_QV Q) := by
  unfold w_Verifier_flow_169 at h
  exact r_return (kd97 rfl) R97 h
def w_Verifier_flow_106 : Nat → Nat → Nat → Nat → Int32 → Int32 → Int32 → eM → (eM → Prop) → Prop
  | 0, _, _, _, _, _, _, _, _ => False
  | n + 1, kc, ks, l0, l1, l2, l3, M, Q => e_ob M l0 10 ∧ ((gi M l0 5) = 0 → w_Verifier_flow_169 kc ks  M Q) ∧ (¬ (gi M l0 5) = 0 → (1000000 ≤ l3 → w_Verifier_flow_169 kc ks  M Q) ∧ (¬ 1000000 ≤ l3 → e_ob M l0 10 ∧ ((0 : Int32) = 0 ∨ (0 : Int32) = 1) ∧ ∀ M14 : eM, M14 = e_si M l0 5 (0 : Int32) → ∃ n15 : Nat, w_Verifier_flow_127 n15 kc ks l0 l1 l2 l3 l1 M14 Q (fun kc ks l0 l1 l2 l3 M => w_Verifier_flow_106 n kc ks l0 l1 l2 l3 M Q )))
theorem b_Verifier_flow_106 {d : Nat} {Q : eM → Prop} (hd : 5 ≤ d) (n : Nat) : ∀ (kc ks : Nat) (l0 : Nat) (l1 : Int32) (l2 : Int32) (l3 : Int32) (M : eM), w_Verifier_flow_106 n kc ks l0 l1 l2 l3 M Q → e_E 97 d kc ks 106 [(0, .ref l0), (1, .int l1), (2, .int l2), (3, .int l3)] [] M (e_QV Q) := by
  induction n with
  | zero => intro kc ks l0 l1 l2 l3 M h; exact False.elim h
  | succ n ih =>
    intro kc ks l0 l1 l2 l3 M h
    have hk106 := ih
    refine r_aload_n (kd97 rfl) rfl rfl ?_
    obtain ⟨g, h⟩ := h
    refine r_get3 (kd97 rfl) (by decide) rfl g rfl ?_
    refine r_if_eq (kd97 rfl) rfl (fun c => ?_) (fun c => ?_)
    · have h := h.1 c
      exact (b_Verifier_flow_169 hd h).less e_sn
    · have h := h.2 c
      refine r_iload_n (kd97 rfl) rfl rfl ?_
      refine r_ldc (kd97 rfl) (y := 1000000) (by decide) rfl ?_
      refine r_icmp_ge (kd97 rfl) rfl (fun c => ?_) (fun c => ?_)
      · have h := h.1 c
        exact (b_Verifier_flow_169 hd h).less e_sn
      · have h := h.2 c
        refine r_aload_n (kd97 rfl) rfl rfl ?_
        refine r_iconst (kd97 rfl) (y := 0) (by decide) rfl ?_
        obtain ⟨g, h⟩ := h
        obtain ⟨gb, h⟩ := h
        have h := h _ rfl
        refine r_put3 (kd97 rfl) (by decide) rfl g gb rfl ?_
        refine r_iload_n (kd97 rfl) rfl rfl ?_
        refine r_istore (kd97 rfl) L97 (by decide) rfl rfl ?_
        obtain ⟨n, h⟩ := h
        exact (b_Verifier_flow_127 hd n hk106 _ _ _ _ _ _ _ _ h).less (e_sc (List.mem_of_getElem? (i := 1) rfl) (e_sc (List.mem_of_getElem? (i := 2) rfl) (e_sc (List.mem_of_getElem? (i := 3) rfl) (e_sc (List.mem_of_getElem? (i := 4) rfl) (e_sc (List.mem_of_getElem? (i := 0) rfl) e_sn)))))
def w_Verifier_flow_48 : Nat → Nat → Nat → Nat → Int32 → Int32 → Int32 → eM → (eM → Prop) → Prop
  | 0, _, _, _, _, _, _, _, _ => False
  | n + 1, kc, ks, l0, l1, l2, l3, M, Q => e_ob M l0 10 ∧ e_ob M (gr M l0 4) 8 ∧ ((gi M (gr M l0 4) 1) ≤ l3 → e_ob M l0 10 ∧ ∀ M9 : eM, M9 = e_sl M l0 8 0 → e_ob M9 l0 10 ∧ ∀ M10 : eM, M10 = e_si M9 l0 6 0 → e_ob M10 l0 10 ∧ w_Verifier_comeTo l0 l1 M10 (fun (M11 : eM) => ∃ n12 : Nat, w_Verifier_flow_106 n12 kc ks l0 l1 l2 0 M11 Q)) ∧ (¬ (gi M (gr M l0 4) 1) ≤ l3 → e_ob M l0 10 ∧ e_ob M l0 10 ∧ e_ob M (gr M l0 4) 8 ∧ e_ai M (gr M (gr M l0 4) 0) l3 ∧ e_ob M l0 10 ∧ ∀ M13 : eM, M13 = e_sl M l0 7 ((gl M l0 7) ||| (((gi M (gr M (gr M l0 4) 0) l3.toNatClampNeg).toInt64) <<< ((8 * l3).toInt64 &&& 63))) → (fun kc ks l0 l1 l2 l3 M => w_Verifier_flow_48 n kc ks l0 l1 l2 l3 M Q ) kc ks l0 l1 l2 (l3 + 1) M13)
theorem b_Verifier_flow_48 {d : Nat} {Q : eM → Prop} (hd : 5 ≤ d) (n : Nat) : ∀ (kc ks : Nat) (l0 : Nat) (l1 : Int32) (l2 : Int32) (l3 : Int32) (M : eM), w_Verifier_flow_48 n kc ks l0 l1 l2 l3 M Q → e_E 97 d kc ks 48 [(0, .ref l0), (1, .int l1), (2, .int l2), (3, .int l3)] [] M (e_QV Q) := by
  induction n with
  | zero => intro kc ks l0 l1 l2 l3 M h; exact False.elim h
  | succ n ih =>
    intro kc ks l0 l1 l2 l3 M h
    have hk48 := ih
    refine r_iload_n (kd97 rfl) rfl rfl ?_
    refine r_aload_n (kd97 rfl) rfl rfl ?_
    obtain ⟨g, h⟩ := h
    refine r_get2 (kd97 rfl) (by decide) rfl g rfl ?_
    obtain ⟨g, h⟩ := h
    refine r_get0 (kd97 rfl) (by decide) rfl g rfl ?_
    refine r_icmp_ge (kd97 rfl) rfl (fun c => ?_) (fun c => ?_)
    · have h := h.1 c
      refine r_aload_n (kd97 rfl) rfl rfl ?_
      refine r_lconst (kd97 rfl) (y := 0) (by decide) rfl ?_
      obtain ⟨g, h⟩ := h
      have h := h _ rfl
      refine r_put1 (kd97 rfl) (by decide) rfl g rfl ?_
      refine r_aload_n (kd97 rfl) rfl rfl ?_
      refine r_iconst (kd97 rfl) (y := 0) (by decide) rfl ?_
      obtain ⟨g, h⟩ := h
      have h := h _ rfl
      refine r_put0 (kd97 rfl) (by decide) rfl g rfl ?_
      refine r_aload_n (kd97 rfl) rfl rfl ?_
      refine r_iload_n (kd97 rfl) rfl rfl ?_
      obtain ⟨g, h⟩ := h
      refine r_callVV (d' := d - 1) (by omega) (kd97 rfl) (by decide) rfl rfl rfl rfl (Nat.le_of_ble_eq_true rfl) rfl L106 (Nat.le_of_ble_eq_true rfl) (Nat.le_of_ble_eq_true rfl) g (Nat.zero_le _) (Nat.zero_le _) rfl rfl rfl (b_Verifier_comeTo (by omega) h) (fun M1 h => ?_)
      refine r_iconst (kd97 rfl) (y := 0) (by decide) rfl ?_
      refine r_istore_n (kd97 rfl) L97 (by decide) rfl rfl ?_
      obtain ⟨n, h⟩ := h
      exact (b_Verifier_flow_106 hd n _ _ _ _ _ _ _ h).less (e_sc (List.mem_of_getElem? (i := 1) rfl) (e_sc (List.mem_of_getElem? (i := 2) rfl) (e_sc (List.mem_of_getElem? (i := 3) rfl) (e_sc (List.mem_of_getElem? (i := 0) rfl) e_sn))))
    · have h := h.2 c
      refine r_aload_n (kd97 rfl) rfl rfl ?_
      refine r_dup (kd97 rfl) rfl rfl ?_
      obtain ⟨g, h⟩ := h
      refine r_get1 (kd97 rfl) (by decide) rfl g rfl ?_
      refine r_aload_n (kd97 rfl) rfl rfl ?_
      obtain ⟨g, h⟩ := h
      refine r_get2 (kd97 rfl) (by decide) rfl g rfl ?_
      obtain ⟨g, h⟩ := h
      refine r_get2 (kd97 rfl) (by decide) rfl g rfl ?_
      refine r_iload_n (kd97 rfl) rfl rfl ?_
      obtain ⟨g, h⟩ := h
      refine r_iaload (kd97 rfl) g rfl ?_
      refine r_i2l (kd97 rfl) rfl ?_
      refine r_bipush (kd97 rfl) (y := 8) (by decide) rfl ?_
      refine r_iload_n (kd97 rfl) rfl rfl ?_
      refine r_imul (kd97 rfl) rfl ?_
      refine r_lshl (kd97 rfl) rfl ?_
      refine r_lor (kd97 rfl) rfl ?_
      obtain ⟨g, h⟩ := h
      have h := h _ rfl
      refine r_put1 (kd97 rfl) (by decide) rfl g rfl ?_
      refine r_iinc (kd97 rfl) rfl (y := 1) (by decide) L97 (by decide) rfl rfl ?_
      refine r_goto (kd97 rfl) ?_
      exact (hk48 _ _ _ _ _ _ _ h).less (e_sc (List.mem_of_getElem? (i := 1) rfl) (e_sc (List.mem_of_getElem? (i := 2) rfl) (e_sc (List.mem_of_getElem? (i := 3) rfl) (e_sc (List.mem_of_getElem? (i := 0) rfl) e_sn))))
def w_Verifier_flow (kc ks : Nat) (l0 : Nat) (M : eM) (Q : eM → Prop) : Prop := e_ob M l0 10 ∧ e_ob M (gr M l0 4) 8 ∧ e_ob M l0 10 ∧ e_ob M (gr M l0 4) 8 ∧ e_ob M l0 10 ∧ e_ob M (gr M l0 3) 6 ∧ ∃ kc2 ks3 : Nat, kc2 ≤ kc ∧ ks3 ≤ ks ∧ w_Arr_fill_234 kc2 ks3 (gr M (gr M l0 3) 15) (gi M (gr M l0 4) 5) ((gi M (gr M l0 4) 5) + (gi M (gr M l0 4) 6)) (-1) M (fun (M1 : eM) => e_ob M1 l0 10 ∧ ∃ kc5 ks6 : Nat, kc5 ≤ (kc - kc2) ∧ ks6 ≤ (ks - ks3) ∧ w_Arr_fill_234 kc5 ks6 (gr M1 l0 2) (gi M (gr M l0 4) 5) ((gi M (gr M l0 4) 5) + (gi M (gr M l0 4) 6)) 0 M1 (fun (M4 : eM) => e_ob M4 l0 10 ∧ ∀ M7 : eM, M7 = e_sl M4 l0 7 0 → ∃ n8 : Nat, w_Verifier_flow_48 n8 (kc - kc2 - kc5) (ks - ks3 - ks6) l0 (gi M (gr M l0 4) 5) ((gi M (gr M l0 4) 5) + (gi M (gr M l0 4) 6)) 0 M7 Q))
theorem b_Verifier_flow {d : Nat} {kc ks : Nat} {l0 : Nat} {M : eM} {Q : eM → Prop} (hd : 5 ≤ d) (h : w_Verifier_flow kc ks l0 M Q) : e_CV 97 d kc ks [.ref l0] M Q := by
  unfold w_Verifier_flow at h
  show e_E 97 d kc ks 0 [(0, .ref l0)] [] M (e_QV Q)
  refine r_aload_n (kd97 rfl) rfl rfl ?_
  obtain ⟨g, h⟩ := h
  refine r_get2 (kd97 rfl) (by decide) rfl g rfl ?_
  obtain ⟨g, h⟩ := h
  refine r_get0 (kd97 rfl) (by decide) rfl g rfl ?_
  refine r_istore_n (kd97 rfl) L97 (by decide) rfl rfl ?_
  refine r_iload_n (kd97 rfl) rfl rfl ?_
  refine r_aload_n (kd97 rfl) rfl rfl ?_
  obtain ⟨g, h⟩ := h
  refine r_get2 (kd97 rfl) (by decide) rfl g rfl ?_
  obtain ⟨g, h⟩ := h
  refine r_get0 (kd97 rfl) (by decide) rfl g rfl ?_
  refine r_iadd (kd97 rfl) rfl ?_
  refine r_istore_n (kd97 rfl) L97 (by decide) rfl rfl ?_
  refine r_aload_n (kd97 rfl) rfl rfl ?_
  obtain ⟨g, h⟩ := h
  refine r_get2 (kd97 rfl) (by decide) rfl g rfl ?_
  obtain ⟨g, h⟩ := h
  refine r_get2 (kd97 rfl) (by decide) rfl g rfl ?_
  refine r_iload_n (kd97 rfl) rfl rfl ?_
  refine r_iload_n (kd97 rfl) rfl rfl ?_
  refine r_iconst (kd97 rfl) (y := (-1)) (by decide) rfl ?_
  obtain ⟨mc, ms, q1, q2, h⟩ := h
  refine r_callSV (d' := d - 1) (by omega) (kd97 rfl) (by decide) rfl rfl rfl rfl (Nat.le_of_ble_eq_true rfl) rfl L234 (Nat.le_of_ble_eq_true rfl) (Nat.le_of_ble_eq_true rfl) q1 q2 rfl rfl rfl (b_Arr_fill_234 (by omega) h) (fun M1 h => ?_)
  refine r_aload_n (kd97 rfl) rfl rfl ?_
  obtain ⟨g, h⟩ := h
  refine r_get2 (kd97 rfl) (by decide) rfl g rfl ?_
  refine r_iload_n (kd97 rfl) rfl rfl ?_
  refine r_iload_n (kd97 rfl) rfl rfl ?_
  refine r_iconst (kd97 rfl) (y := 0) (by decide) rfl ?_
  obtain ⟨mc, ms, q1, q2, h⟩ := h
  refine r_callSV (d' := d - 1) (by omega) (kd97 rfl) (by decide) rfl rfl rfl rfl (Nat.le_of_ble_eq_true rfl) rfl L234 (Nat.le_of_ble_eq_true rfl) (Nat.le_of_ble_eq_true rfl) q1 q2 rfl rfl rfl (b_Arr_fill_234 (by omega) h) (fun M1 h => ?_)
  refine r_aload_n (kd97 rfl) rfl rfl ?_
  refine r_lconst (kd97 rfl) (y := 0) (by decide) rfl ?_
  obtain ⟨g, h⟩ := h
  have h := h _ rfl
  refine r_put1 (kd97 rfl) (by decide) rfl g rfl ?_
  refine r_iconst (kd97 rfl) (y := 0) (by decide) rfl ?_
  refine r_istore_n (kd97 rfl) L97 (by decide) rfl rfl ?_
  obtain ⟨n, h⟩ := h
  exact (b_Verifier_flow_48 hd n _ _ _ _ _ _ _ h).less (e_sc (List.mem_of_getElem? (i := 3) rfl) (e_sc (List.mem_of_getElem? (i := 2) rfl) (e_sc (List.mem_of_getElem? (i := 1) rfl) (e_sc (List.mem_of_getElem? (i := 0) rfl) e_sn))))
/-- TierMill$Verifier.fromTop(I)I -/
theorem kd111 {pc : Nat} {q : eI} (h : e_d111.lookup pc = some q) : e_dec 111 pc = some q := h
theorem L111 : (e_m 111).2.2.1 = 2 := rfl
theorem R111 : (e_m 111).2.2.2.1 = (some .int) := rfl
def w_Verifier_fromTop_27 (s0 : Int32) (M : eM) (Q : Int32 → eM → Prop) : Prop := Q s0 M
theorem b_Verifier_fromTop_27 {d : Nat} {s0 : Int32} {M : eM} {Q : Int32 → eM → Prop} (hd : 1 ≤ d) (h : w_Verifier_fromTop_27 s0 M Q ) : e_E 111 d 0 0 27 [] [.int s0] M (e_QI Q) := by
  unfold w_Verifier_fromTop_27 at h
  exact r_ireturn (kd111 rfl) R111 h
def w_Verifier_fromTop (l0 : Nat) (l1 : Int32) (M : eM) (Q : Int32 → eM → Prop) : Prop := e_ob M l0 10 ∧ ((gi M l0 6) ≤ l1 → w_Verifier_fromTop_27 0 M Q) ∧ (¬ (gi M l0 6) ≤ l1 → e_ob M l0 10 ∧ e_ob M l0 10 ∧ w_Program_kindIn (gl M l0 8) (((gi M l0 6) - 1) - l1) M (fun (v2 : Int32) (M1 : eM) => w_Verifier_fromTop_27 v2 M1 Q))
theorem b_Verifier_fromTop {d : Nat} {l0 : Nat} {l1 : Int32} {M : eM} {Q : Int32 → eM → Prop} (hd : 1 ≤ d) (h : w_Verifier_fromTop l0 l1 M Q) : e_CI 111 d 0 0 [.ref l0, .int l1] M Q := by
  unfold w_Verifier_fromTop at h
  show e_E 111 d 0 0 0 [(0, .ref l0), (1, .int l1)] [] M (e_QI Q)
  refine r_aload_n (kd111 rfl) rfl rfl ?_
  obtain ⟨g, h⟩ := h
  refine r_get0 (kd111 rfl) (by decide) rfl g rfl ?_
  refine r_iload_n (kd111 rfl) rfl rfl ?_
  refine r_icmp_le (kd111 rfl) rfl (fun c => ?_) (fun c => ?_)
  · have h := h.1 c
    refine r_iconst (kd111 rfl) (y := 0) (by decide) rfl ?_
    exact (b_Verifier_fromTop_27 hd h).less e_sn
  · have h := h.2 c
    refine r_aload_n (kd111 rfl) rfl rfl ?_
    obtain ⟨g, h⟩ := h
    refine r_get1 (kd111 rfl) (by decide) rfl g rfl ?_
    refine r_aload_n (kd111 rfl) rfl rfl ?_
    obtain ⟨g, h⟩ := h
    refine r_get0 (kd111 rfl) (by decide) rfl g rfl ?_
    refine r_iconst (kd111 rfl) (y := 1) (by decide) rfl ?_
    refine r_isub (kd111 rfl) rfl ?_
    refine r_iload_n (kd111 rfl) rfl rfl ?_
    refine r_isub (kd111 rfl) rfl ?_
    refine r_callSI (d' := d - 1) (by omega) (kd111 rfl) (by decide) rfl rfl rfl rfl (Nat.le_of_ble_eq_true rfl) rfl L69 (Nat.le_of_ble_eq_true rfl) (Nat.le_of_ble_eq_true rfl) (Nat.zero_le _) (Nat.zero_le _) rfl rfl rfl (b_Program_kindIn (by omega) h) (fun x1 M1 h => ?_)
    refine r_goto (kd111 rfl) ?_
    exact (b_Verifier_fromTop_27 hd h).less e_sn
/-- TierMill$Verifier.areAlike(II)Z -/
theorem kd113 {pc : Nat} {q : eI} (h : e_d113.lookup pc = some q) : e_dec 113 pc = some q := h
theorem L113 : (e_m 113).2.2.1 = 2 := rfl
theorem R113 : (e_m 113).2.2.2.1 = (some .boolean) := rfl
def w_Verifier_areAlike_18 (M : eM) (Q : Int32 → eM → Prop) : Prop := ((0 : Int32) = 0 ∨ (0 : Int32) = 1) ∧ Q (0 : Int32) M
theorem b_Verifier_areAlike_18 {d : Nat} {M : eM} {Q : Int32 → eM → Prop} (hd : 0 ≤ d) (h : w_Verifier_areAlike_18 M Q ) : e_E 113 d 0 0 18 [] [] M (e_QI Q) := by
  unfold w_Verifier_areAlike_18 at h
  refine r_iconst (kd113 rfl) (y := 0) (by decide) rfl ?_
  exact r_zreturn (kd113 rfl) R113 h.1 h.2
def w_Verifier_areAlike_47 (s0 : Int32) (M : eM) (Q : Int32 → eM → Prop) : Prop := (s0 = 0 ∨ s0 = 1) ∧ Q s0 M
theorem b_Verifier_areAlike_47 {d : Nat} {s0 : Int32} {M : eM} {Q : Int32 → eM → Prop} (hd : 0 ≤ d) (h : w_Verifier_areAlike_47 s0 M Q ) : e_E 113 d 0 0 47 [] [.int s0] M (e_QI Q) := by
  unfold w_Verifier_areAlike_47 at h
  exact r_zreturn (kd113 rfl) R113 h.1 h.2
def w_Verifier_areAlike_42 (M : eM) (Q : Int32 → eM → Prop) : Prop := w_Verifier_areAlike_47 1 M Q
theorem b_Verifier_areAlike_42 {d : Nat} {M : eM} {Q : Int32 → eM → Prop} (hd : 0 ≤ d) (h : w_Verifier_areAlike_42 M Q ) : e_E 113 d 0 0 42 [] [] M (e_QI Q) := by
  unfold w_Verifier_areAlike_42 at h
  refine r_iconst (kd113 rfl) (y := 1) (by decide) rfl ?_
  refine r_goto (kd113 rfl) ?_
  exact (b_Verifier_areAlike_47 hd h).less e_sn
def w_Verifier_areAlike_46 (M : eM) (Q : Int32 → eM → Prop) : Prop := w_Verifier_areAlike_47 0 M Q
theorem b_Verifier_areAlike_46 {d : Nat} {M : eM} {Q : Int32 → eM → Prop} (hd : 0 ≤ d) (h : w_Verifier_areAlike_46 M Q ) : e_E 113 d 0 0 46 [] [] M (e_QI Q) := by
  unfold w_Verifier_areAlike_46 at h
  refine r_iconst (kd113 rfl) (y := 0) (by decide) rfl ?_
  exact (b_Verifier_areAlike_47 hd h).less e_sn
def w_Verifier_areAlike_31 (l0 : Int32) (l1 : Int32) (M : eM) (Q : Int32 → eM → Prop) : Prop := (¬ l1 = 2 → w_Verifier_areAlike_42 M Q) ∧ (l1 = 2 → (15 ≤ l0 → w_Verifier_areAlike_46 M Q) ∧ (¬ 15 ≤ l0 → w_Verifier_areAlike_42 M Q))
theorem b_Verifier_areAlike_31 {d : Nat} {l0 : Int32} {l1 : Int32} {M : eM} {Q : Int32 → eM → Prop} (hd : 0 ≤ d) (h : w_Verifier_areAlike_31 l0 l1 M Q ) : e_E 113 d 0 0 31 [(0, .int l0), (1, .int l1)] [] M (e_QI Q) := by
  unfold w_Verifier_areAlike_31 at h
  refine r_iload_n (kd113 rfl) rfl rfl ?_
  refine r_iconst (kd113 rfl) (y := 2) (by decide) rfl ?_
  refine r_icmp_ne (kd113 rfl) rfl (fun c => ?_) (fun c => ?_)
  · have h := h.1 c
    exact (b_Verifier_areAlike_42 hd h).less e_sn
  · have h := h.2 c
    refine r_iload_n (kd113 rfl) rfl rfl ?_
    refine r_bipush (kd113 rfl) (y := 15) (by decide) rfl ?_
    refine r_icmp_ge (kd113 rfl) rfl (fun c => ?_) (fun c => ?_)
    · have h := h.1 c
      exact (b_Verifier_areAlike_46 hd h).less e_sn
    · have h := h.2 c
      exact (b_Verifier_areAlike_42 hd h).less e_sn
def w_Verifier_areAlike (l0 : Int32) (l1 : Int32) (M : eM) (Q : Int32 → eM → Prop) : Prop := (l0 = 1 → w_Verifier_areAlike_18 M Q) ∧ (¬ l0 = 1 → (l1 = 1 → w_Verifier_areAlike_18 M Q) ∧ (¬ l1 = 1 → (l0 = 0 → w_Verifier_areAlike_18 M Q) ∧ (¬ l0 = 0 → (¬ l1 = 0 → (¬ l0 = 2 → w_Verifier_areAlike_31 l0 l1 M Q) ∧ (l0 = 2 → (15 ≤ l1 → w_Verifier_areAlike_46 M Q) ∧ (¬ 15 ≤ l1 → w_Verifier_areAlike_31 l0 l1 M Q))) ∧ (l1 = 0 → w_Verifier_areAlike_18 M Q))))
theorem b_Verifier_areAlike {d : Nat} {l0 : Int32} {l1 : Int32} {M : eM} {Q : Int32 → eM → Prop} (hd : 0 ≤ d) (h : w_Verifier_areAlike l0 l1 M Q) : e_CI 113 d 0 0 [.int l0, .int l1] M Q := by
  unfold w_Verifier_areAlike at h
  show e_E 113 d 0 0 0 [(0, .int l0), (1, .int l1)] [] M (e_QI Q)
  refine r_iload_n (kd113 rfl) rfl rfl ?_
  refine r_iconst (kd113 rfl) (y := 1) (by decide) rfl ?_
  refine r_icmp_eq (kd113 rfl) rfl (fun c => ?_) (fun c => ?_)
  · have h := h.1 c
    exact (b_Verifier_areAlike_18 hd h).less e_sn
  · have h := h.2 c
    refine r_iload_n (kd113 rfl) rfl rfl ?_
    refine r_iconst (kd113 rfl) (y := 1) (by decide) rfl ?_
    refine r_icmp_eq (kd113 rfl) rfl (fun c => ?_) (fun c => ?_)
    · have h := h.1 c
      exact (b_Verifier_areAlike_18 hd h).less e_sn
    · have h := h.2 c
      refine r_iload_n (kd113 rfl) rfl rfl ?_
      refine r_if_eq (kd113 rfl) rfl (fun c => ?_) (fun c => ?_)
      · have h := h.1 c
        exact (b_Verifier_areAlike_18 hd h).less e_sn
      · have h := h.2 c
        refine r_iload_n (kd113 rfl) rfl rfl ?_
        refine r_if_ne (kd113 rfl) rfl (fun c => ?_) (fun c => ?_)
        · have h := h.1 c
          refine r_iload_n (kd113 rfl) rfl rfl ?_
          refine r_iconst (kd113 rfl) (y := 2) (by decide) rfl ?_
          refine r_icmp_ne (kd113 rfl) rfl (fun c => ?_) (fun c => ?_)
          · have h := h.1 c
            exact (b_Verifier_areAlike_31 hd h).less (e_sc (List.mem_of_getElem? (i := 0) rfl) (e_sc (List.mem_of_getElem? (i := 1) rfl) e_sn))
          · have h := h.2 c
            refine r_iload_n (kd113 rfl) rfl rfl ?_
            refine r_bipush (kd113 rfl) (y := 15) (by decide) rfl ?_
            refine r_icmp_ge (kd113 rfl) rfl (fun c => ?_) (fun c => ?_)
            · have h := h.1 c
              exact (b_Verifier_areAlike_46 hd h).less e_sn
            · have h := h.2 c
              exact (b_Verifier_areAlike_31 hd h).less (e_sc (List.mem_of_getElem? (i := 0) rfl) (e_sc (List.mem_of_getElem? (i := 1) rfl) e_sn))
        · have h := h.2 c
          exact (b_Verifier_areAlike_18 hd h).less e_sn
/-- TierMill$Verifier.isFitPlain(II)Z -/
theorem kd112 {pc : Nat} {q : eI} (h : e_d112.lookup pc = some q) : e_dec 112 pc = some q := h
theorem L112 : (e_m 112).2.2.1 = 5 := rfl
theorem R112 : (e_m 112).2.2.2.1 = (some .boolean) := rfl
def w_Verifier_isFitPlain_240 (M : eM) (Q : Int32 → eM → Prop) : Prop := ((1 : Int32) = 0 ∨ (1 : Int32) = 1) ∧ Q (1 : Int32) M
theorem b_Verifier_isFitPlain_240 {d : Nat} {M : eM} {Q : Int32 → eM → Prop} (hd : 2 ≤ d) (h : w_Verifier_isFitPlain_240 M Q ) : e_E 112 d 0 0 240 [] [] M (e_QI Q) := by
  unfold w_Verifier_isFitPlain_240 at h
  refine r_iconst (kd112 rfl) (y := 1) (by decide) rfl ?_
  exact r_zreturn (kd112 rfl) R112 h.1 h.2
def w_Verifier_isFitPlain_268 (s0 : Int32) (M : eM) (Q : Int32 → eM → Prop) : Prop := (s0 = 0 ∨ s0 = 1) ∧ Q s0 M
theorem b_Verifier_isFitPlain_268 {d : Nat} {s0 : Int32} {M : eM} {Q : Int32 → eM → Prop} (hd : 2 ≤ d) (h : w_Verifier_isFitPlain_268 s0 M Q ) : e_E 112 d 0 0 268 [] [.int s0] M (e_QI Q) := by
  unfold w_Verifier_isFitPlain_268 at h
  exact r_zreturn (kd112 rfl) R112 h.1 h.2
def w_Verifier_isFitPlain_278 (s0 : Int32) (M : eM) (Q : Int32 → eM → Prop) : Prop := (s0 = 0 ∨ s0 = 1) ∧ Q s0 M
theorem b_Verifier_isFitPlain_278 {d : Nat} {s0 : Int32} {M : eM} {Q : Int32 → eM → Prop} (hd : 2 ≤ d) (h : w_Verifier_isFitPlain_278 s0 M Q ) : e_E 112 d 0 0 278 [] [.int s0] M (e_QI Q) := by
  unfold w_Verifier_isFitPlain_278 at h
  exact r_zreturn (kd112 rfl) R112 h.1 h.2
def w_Verifier_isFitPlain_269 (l3 : Int32) (M : eM) (Q : Int32 → eM → Prop) : Prop := (l3 = 0 → w_Verifier_isFitPlain_278 0 M Q) ∧ (¬ l3 = 0 → w_Verifier_isFitPlain_278 1 M Q)
theorem b_Verifier_isFitPlain_269 {d : Nat} {l3 : Int32} {M : eM} {Q : Int32 → eM → Prop} (hd : 2 ≤ d) (h : w_Verifier_isFitPlain_269 l3 M Q ) : e_E 112 d 0 0 269 [(3, .int l3)] [] M (e_QI Q) := by
  unfold w_Verifier_isFitPlain_269 at h
  refine r_iload_n (kd112 rfl) rfl rfl ?_
  refine r_if_eq (kd112 rfl) rfl (fun c => ?_) (fun c => ?_)
  · have h := h.1 c
    refine r_iconst (kd112 rfl) (y := 0) (by decide) rfl ?_
    exact (b_Verifier_isFitPlain_278 hd h).less e_sn
  · have h := h.2 c
    refine r_iconst (kd112 rfl) (y := 1) (by decide) rfl ?_
    refine r_goto (kd112 rfl) ?_
    exact (b_Verifier_isFitPlain_278 hd h).less e_sn
def w_Verifier_isFitPlain_293 (s0 : Int32) (M : eM) (Q : Int32 → eM → Prop) : Prop := (s0 = 0 ∨ s0 = 1) ∧ Q s0 M
theorem b_Verifier_isFitPlain_293 {d : Nat} {s0 : Int32} {M : eM} {Q : Int32 → eM → Prop} (hd : 2 ≤ d) (h : w_Verifier_isFitPlain_293 s0 M Q ) : e_E 112 d 0 0 293 [] [.int s0] M (e_QI Q) := by
  unfold w_Verifier_isFitPlain_293 at h
  exact r_zreturn (kd112 rfl) R112 h.1 h.2
def w_Verifier_isFitPlain_292 (M : eM) (Q : Int32 → eM → Prop) : Prop := w_Verifier_isFitPlain_293 0 M Q
theorem b_Verifier_isFitPlain_292 {d : Nat} {M : eM} {Q : Int32 → eM → Prop} (hd : 2 ≤ d) (h : w_Verifier_isFitPlain_292 M Q ) : e_E 112 d 0 0 292 [] [] M (e_QI Q) := by
  unfold w_Verifier_isFitPlain_292 at h
  refine r_iconst (kd112 rfl) (y := 0) (by decide) rfl ?_
  exact (b_Verifier_isFitPlain_293 hd h).less e_sn
def w_Verifier_isFitPlain_321 (s0 : Int32) (M : eM) (Q : Int32 → eM → Prop) : Prop := (s0 = 0 ∨ s0 = 1) ∧ Q s0 M
theorem b_Verifier_isFitPlain_321 {d : Nat} {s0 : Int32} {M : eM} {Q : Int32 → eM → Prop} (hd : 2 ≤ d) (h : w_Verifier_isFitPlain_321 s0 M Q ) : e_E 112 d 0 0 321 [] [.int s0] M (e_QI Q) := by
  unfold w_Verifier_isFitPlain_321 at h
  exact r_zreturn (kd112 rfl) R112 h.1 h.2
def w_Verifier_isFitPlain_336 (s0 : Int32) (M : eM) (Q : Int32 → eM → Prop) : Prop := (s0 = 0 ∨ s0 = 1) ∧ Q s0 M
theorem b_Verifier_isFitPlain_336 {d : Nat} {s0 : Int32} {M : eM} {Q : Int32 → eM → Prop} (hd : 2 ≤ d) (h : w_Verifier_isFitPlain_336 s0 M Q ) : e_E 112 d 0 0 336 [] [.int s0] M (e_QI Q) := by
  unfold w_Verifier_isFitPlain_336 at h
  exact r_zreturn (kd112 rfl) R112 h.1 h.2
def w_Verifier_isFitPlain_335 (M : eM) (Q : Int32 → eM → Prop) : Prop := w_Verifier_isFitPlain_336 0 M Q
theorem b_Verifier_isFitPlain_335 {d : Nat} {M : eM} {Q : Int32 → eM → Prop} (hd : 2 ≤ d) (h : w_Verifier_isFitPlain_335 M Q ) : e_E 112 d 0 0 335 [] [] M (e_QI Q) := by
  unfold w_Verifier_isFitPlain_335 at h
  refine r_iconst (kd112 rfl) (y := 0) (by decide) rfl ?_
  exact (b_Verifier_isFitPlain_336 hd h).less e_sn
def w_Verifier_isFitPlain_322 (l3 : Int32) (M : eM) (Q : Int32 → eM → Prop) : Prop := (l3 = 1 → w_Verifier_isFitPlain_335 M Q) ∧ (¬ l3 = 1 → (l3 = 0 → w_Verifier_isFitPlain_335 M Q) ∧ (¬ l3 = 0 → w_Verifier_isFitPlain_336 1 M Q))
theorem b_Verifier_isFitPlain_322 {d : Nat} {l3 : Int32} {M : eM} {Q : Int32 → eM → Prop} (hd : 2 ≤ d) (h : w_Verifier_isFitPlain_322 l3 M Q ) : e_E 112 d 0 0 322 [(3, .int l3)] [] M (e_QI Q) := by
  unfold w_Verifier_isFitPlain_322 at h
  refine r_iload_n (kd112 rfl) rfl rfl ?_
  refine r_iconst (kd112 rfl) (y := 1) (by decide) rfl ?_
  refine r_icmp_eq (kd112 rfl) rfl (fun c => ?_) (fun c => ?_)
  · have h := h.1 c
    exact (b_Verifier_isFitPlain_335 hd h).less e_sn
  · have h := h.2 c
    refine r_iload_n (kd112 rfl) rfl rfl ?_
    refine r_if_eq (kd112 rfl) rfl (fun c => ?_) (fun c => ?_)
    · have h := h.1 c
      exact (b_Verifier_isFitPlain_335 hd h).less e_sn
    · have h := h.2 c
      refine r_iconst (kd112 rfl) (y := 1) (by decide) rfl ?_
      refine r_goto (kd112 rfl) ?_
      exact (b_Verifier_isFitPlain_336 hd h).less e_sn
def w_Verifier_isFitPlain_337 (l3 : Int32) (l4 : Int32) (M : eM) (Q : Int32 → eM → Prop) : Prop := w_Verifier_areAlike l3 l4 M (fun (v10 : Int32) (M9 : eM) => (v10 = 0 ∨ v10 = 1) ∧ Q v10 M9)
theorem b_Verifier_isFitPlain_337 {d : Nat} {l3 : Int32} {l4 : Int32} {M : eM} {Q : Int32 → eM → Prop} (hd : 2 ≤ d) (h : w_Verifier_isFitPlain_337 l3 l4 M Q ) : e_E 112 d 0 0 337 [(3, .int l3), (4, .int l4)] [] M (e_QI Q) := by
  unfold w_Verifier_isFitPlain_337 at h
  refine r_iload_n (kd112 rfl) rfl rfl ?_
  refine r_iload (kd112 rfl) rfl rfl ?_
  refine r_callSI (d' := d - 1) (by omega) (kd112 rfl) (by decide) rfl rfl rfl rfl (Nat.le_of_ble_eq_true rfl) rfl L113 (Nat.le_of_ble_eq_true rfl) (Nat.le_of_ble_eq_true rfl) (Nat.zero_le _) (Nat.zero_le _) rfl rfl rfl (b_Verifier_areAlike (by omega) h) (fun x1 M1 h => ?_)
  exact r_zreturn (kd112 rfl) R112 h.1 h.2
def w_Verifier_isFitPlain_369 (s0 : Int32) (M : eM) (Q : Int32 → eM → Prop) : Prop := (s0 = 0 ∨ s0 = 1) ∧ Q s0 M
theorem b_Verifier_isFitPlain_369 {d : Nat} {s0 : Int32} {M : eM} {Q : Int32 → eM → Prop} (hd : 2 ≤ d) (h : w_Verifier_isFitPlain_369 s0 M Q ) : e_E 112 d 0 0 369 [] [.int s0] M (e_QI Q) := by
  unfold w_Verifier_isFitPlain_369 at h
  exact r_zreturn (kd112 rfl) R112 h.1 h.2
def w_Verifier_isFitPlain_364 (M : eM) (Q : Int32 → eM → Prop) : Prop := w_Verifier_isFitPlain_369 1 M Q
theorem b_Verifier_isFitPlain_364 {d : Nat} {M : eM} {Q : Int32 → eM → Prop} (hd : 2 ≤ d) (h : w_Verifier_isFitPlain_364 M Q ) : e_E 112 d 0 0 364 [] [] M (e_QI Q) := by
  unfold w_Verifier_isFitPlain_364 at h
  refine r_iconst (kd112 rfl) (y := 1) (by decide) rfl ?_
  refine r_goto (kd112 rfl) ?_
  exact (b_Verifier_isFitPlain_369 hd h).less e_sn
def w_Verifier_isFitPlain_368 (M : eM) (Q : Int32 → eM → Prop) : Prop := w_Verifier_isFitPlain_369 0 M Q
theorem b_Verifier_isFitPlain_368 {d : Nat} {M : eM} {Q : Int32 → eM → Prop} (hd : 2 ≤ d) (h : w_Verifier_isFitPlain_368 M Q ) : e_E 112 d 0 0 368 [] [] M (e_QI Q) := by
  unfold w_Verifier_isFitPlain_368 at h
  refine r_iconst (kd112 rfl) (y := 0) (by decide) rfl ?_
  exact (b_Verifier_isFitPlain_369 hd h).less e_sn
def w_Verifier_isFitPlain_344 (l2 : Int32) (l3 : Int32) (l4 : Int32) (M : eM) (Q : Int32 → eM → Prop) : Prop := (¬ l3 = 1 → w_Verifier_isFitPlain_368 M Q) ∧ (l3 = 1 → e_ai M 3 l2 ∧ ((gi M 3 l2.toNatClampNeg) = 1 → w_Verifier_isFitPlain_364 M Q) ∧ (¬ (gi M 3 l2.toNatClampNeg) = 1 → (¬ l4 = 1 → w_Verifier_isFitPlain_368 M Q) ∧ (l4 = 1 → w_Verifier_isFitPlain_364 M Q)))
theorem b_Verifier_isFitPlain_344 {d : Nat} {l2 : Int32} {l3 : Int32} {l4 : Int32} {M : eM} {Q : Int32 → eM → Prop} (hd : 2 ≤ d) (h : w_Verifier_isFitPlain_344 l2 l3 l4 M Q ) : e_E 112 d 0 0 344 [(2, .int l2), (3, .int l3), (4, .int l4)] [] M (e_QI Q) := by
  unfold w_Verifier_isFitPlain_344 at h
  refine r_iload_n (kd112 rfl) rfl rfl ?_
  refine r_iconst (kd112 rfl) (y := 1) (by decide) rfl ?_
  refine r_icmp_ne (kd112 rfl) rfl (fun c => ?_) (fun c => ?_)
  · have h := h.1 c
    exact (b_Verifier_isFitPlain_368 hd h).less e_sn
  · have h := h.2 c
    refine r_getstatic (kd112 rfl) (by decide) rfl ?_
    refine r_iload_n (kd112 rfl) rfl rfl ?_
    obtain ⟨g, h⟩ := h
    refine r_iaload (kd112 rfl) g rfl ?_
    refine r_iconst (kd112 rfl) (y := 1) (by decide) rfl ?_
    refine r_icmp_eq (kd112 rfl) rfl (fun c => ?_) (fun c => ?_)
    · have h := h.1 c
      exact (b_Verifier_isFitPlain_364 hd h).less e_sn
    · have h := h.2 c
      refine r_iload (kd112 rfl) rfl rfl ?_
      refine r_iconst (kd112 rfl) (y := 1) (by decide) rfl ?_
      refine r_icmp_ne (kd112 rfl) rfl (fun c => ?_) (fun c => ?_)
      · have h := h.1 c
        exact (b_Verifier_isFitPlain_368 hd h).less e_sn
      · have h := h.2 c
        exact (b_Verifier_isFitPlain_364 hd h).less e_sn
def w_Verifier_isFitPlain (l0 : Nat) (l1 : Int32) (l2 : Int32) (M : eM) (Q : Int32 → eM → Prop) : Prop := e_ob M l0 10 ∧ w_Verifier_fromTop l0 0 M (fun (v2 : Int32) (M1 : eM) => e_ob M1 l0 10 ∧ w_Verifier_fromTop l0 1 M1 (fun (v4 : Int32) (M3 : eM) => (l2 = 0 → w_Verifier_isFitPlain_240 M3 Q) ∧ (¬ l2 = 0 → (l2 = 1 → w_Verifier_isFitPlain_240 M3 Q) ∧ (¬ l2 = 1 → (l2 = 2 → w_Verifier_isFitPlain_240 M3 Q) ∧ (¬ l2 = 2 → (l2 = 3 → e_ob M3 l0 10 ∧ e_ob M3 l0 10 ∧ e_ob M3 (gr M3 l0 3) 6 ∧ e_ai M3 (gr M3 (gr M3 l0 3) 0) (l1 + 1) ∧ w_Program_kindIn (gl M3 l0 7) (gi M3 (gr M3 (gr M3 l0 3) 0) (l1 + 1).toNatClampNeg) M3 (fun (v6 : Int32) (M5 : eM) => (v6 = 0 → w_Verifier_isFitPlain_268 0 M5 Q) ∧ (¬ v6 = 0 → w_Verifier_isFitPlain_268 1 M5 Q))) ∧ (¬ l2 = 3 → (l2 = 4 → w_Verifier_isFitPlain_269 v2 M3 Q) ∧ (¬ l2 = 4 → (l2 = 5 → w_Verifier_isFitPlain_269 v2 M3 Q) ∧ (¬ l2 = 5 → (l2 = 6 → w_Verifier_isFitPlain_269 v2 M3 Q) ∧ (¬ l2 = 6 → (l2 = 7 → (v2 = 0 → w_Verifier_isFitPlain_292 M3 Q) ∧ (¬ v2 = 0 → (v4 = 0 → w_Verifier_isFitPlain_292 M3 Q) ∧ (¬ v4 = 0 → w_Verifier_isFitPlain_293 1 M3 Q))) ∧ (¬ l2 = 7 → (l2 = 8 → w_Verifier_isFitPlain_344 l2 v2 v4 M3 Q) ∧ (¬ l2 = 8 → (l2 = 9 → w_Verifier_isFitPlain_344 l2 v2 v4 M3 Q) ∧ (¬ l2 = 9 → (l2 = 10 → w_Verifier_isFitPlain_344 l2 v2 v4 M3 Q) ∧ (¬ l2 = 10 → (l2 = 11 → w_Verifier_isFitPlain_344 l2 v2 v4 M3 Q) ∧ (¬ l2 = 11 → (l2 = 12 → w_Verifier_isFitPlain_344 l2 v2 v4 M3 Q) ∧ (¬ l2 = 12 → (l2 = 13 → w_Verifier_isFitPlain_344 l2 v2 v4 M3 Q) ∧ (¬ l2 = 13 → (l2 = 14 → w_Verifier_isFitPlain_344 l2 v2 v4 M3 Q) ∧ (¬ l2 = 14 → (l2 = 15 → w_Verifier_isFitPlain_344 l2 v2 v4 M3 Q) ∧ (¬ l2 = 15 → (l2 = 16 → w_Verifier_isFitPlain_344 l2 v2 v4 M3 Q) ∧ (¬ l2 = 16 → (l2 = 17 → w_Verifier_isFitPlain_344 l2 v2 v4 M3 Q) ∧ (¬ l2 = 17 → (l2 = 18 → w_Verifier_isFitPlain_344 l2 v2 v4 M3 Q) ∧ (¬ l2 = 18 → (l2 = 19 → w_Verifier_isFitPlain_344 l2 v2 v4 M3 Q) ∧ (¬ l2 = 19 → (l2 = 20 → e_ob M3 l0 10 ∧ e_ob M3 l0 10 ∧ e_ob M3 (gr M3 l0 3) 6 ∧ e_ai M3 (gr M3 (gr M3 l0 3) 0) (l1 + 1) ∧ w_Program_kindIn (gl M3 l0 7) (gi M3 (gr M3 (gr M3 l0 3) 0) (l1 + 1).toNatClampNeg) M3 (fun (v8 : Int32) (M7 : eM) => (¬ v8 = 1 → w_Verifier_isFitPlain_321 0 M7 Q) ∧ (v8 = 1 → w_Verifier_isFitPlain_321 1 M7 Q))) ∧ (¬ l2 = 20 → (l2 = 21 → w_Verifier_isFitPlain_240 M3 Q) ∧ (¬ l2 = 21 → (l2 = 22 → w_Verifier_isFitPlain_344 l2 v2 v4 M3 Q) ∧ (¬ l2 = 22 → (l2 = 23 → w_Verifier_isFitPlain_344 l2 v2 v4 M3 Q) ∧ (¬ l2 = 23 → (l2 = 24 → w_Verifier_isFitPlain_344 l2 v2 v4 M3 Q) ∧ (¬ l2 = 24 → (l2 = 25 → w_Verifier_isFitPlain_344 l2 v2 v4 M3 Q) ∧ (¬ l2 = 25 → (l2 = 26 → w_Verifier_isFitPlain_344 l2 v2 v4 M3 Q) ∧ (¬ l2 = 26 → (l2 = 27 → w_Verifier_isFitPlain_344 l2 v2 v4 M3 Q) ∧ (¬ l2 = 27 → (l2 = 28 → w_Verifier_isFitPlain_344 l2 v2 v4 M3 Q) ∧ (¬ l2 = 28 → (l2 = 29 → w_Verifier_isFitPlain_344 l2 v2 v4 M3 Q) ∧ (¬ l2 = 29 → (l2 = 30 → w_Verifier_isFitPlain_344 l2 v2 v4 M3 Q) ∧ (¬ l2 = 30 → (l2 = 31 → w_Verifier_isFitPlain_344 l2 v2 v4 M3 Q) ∧ (¬ l2 = 31 → (l2 = 32 → w_Verifier_isFitPlain_344 l2 v2 v4 M3 Q) ∧ (¬ l2 = 32 → (l2 = 33 → w_Verifier_isFitPlain_344 l2 v2 v4 M3 Q) ∧ (¬ l2 = 33 → (l2 = 34 → w_Verifier_isFitPlain_322 v2 M3 Q) ∧ (¬ l2 = 34 → (l2 = 35 → w_Verifier_isFitPlain_322 v2 M3 Q) ∧ (¬ l2 = 35 → (l2 = 36 → w_Verifier_isFitPlain_337 v2 v4 M3 Q) ∧ (¬ l2 = 36 → (l2 = 37 → w_Verifier_isFitPlain_337 v2 v4 M3 Q) ∧ (¬ l2 = 37 → (l2 = 38 → w_Verifier_isFitPlain_344 l2 v2 v4 M3 Q) ∧ (¬ l2 = 38 → (l2 = 39 → w_Verifier_isFitPlain_344 l2 v2 v4 M3 Q) ∧ (¬ l2 = 39 → (l2 = 40 → w_Verifier_isFitPlain_344 l2 v2 v4 M3 Q) ∧ (¬ l2 = 40 → (l2 = 41 → w_Verifier_isFitPlain_344 l2 v2 v4 M3 Q) ∧ (¬ l2 = 41 → (l2 = 42 → w_Verifier_isFitPlain_344 l2 v2 v4 M3 Q) ∧ (¬ l2 = 42 → (l2 = 43 → w_Verifier_isFitPlain_344 l2 v2 v4 M3 Q) ∧ (¬ l2 = 43 → (l2 = 44 → w_Verifier_isFitPlain_344 l2 v2 v4 M3 Q) ∧ (¬ l2 = 44 → (l2 = 45 → w_Verifier_isFitPlain_344 l2 v2 v4 M3 Q) ∧ (¬ l2 = 45 → (l2 = 46 → w_Verifier_isFitPlain_344 l2 v2 v4 M3 Q) ∧ (¬ l2 = 46 → (l2 = 47 → w_Verifier_isFitPlain_344 l2 v2 v4 M3 Q) ∧ (¬ l2 = 47 → (l2 = 48 → w_Verifier_isFitPlain_344 l2 v2 v4 M3 Q) ∧ (¬ l2 = 48 → (l2 = 49 → w_Verifier_isFitPlain_344 l2 v2 v4 M3 Q) ∧ (¬ l2 = 49 → (l2 = 50 → w_Verifier_isFitPlain_344 l2 v2 v4 M3 Q) ∧ (¬ l2 = 50 → (l2 = 51 → w_Verifier_isFitPlain_344 l2 v2 v4 M3 Q) ∧ (¬ l2 = 51 → (l2 = 52 → w_Verifier_isFitPlain_240 M3 Q) ∧ (¬ l2 = 52 → w_Verifier_isFitPlain_344 l2 v2 v4 M3 Q)))))))))))))))))))))))))))))))))))))))))))))))))))))))
theorem b_Verifier_isFitPlain {d : Nat} {l0 : Nat} {l1 : Int32} {l2 : Int32} {M : eM} {Q : Int32 → eM → Prop} (hd : 2 ≤ d) (h : w_Verifier_isFitPlain l0 l1 l2 M Q) : e_CI 112 d 0 0 [.ref l0, .int l1, .int l2] M Q := by
  unfold w_Verifier_isFitPlain at h
  show e_E 112 d 0 0 0 [(0, .ref l0), (1, .int l1), (2, .int l2)] [] M (e_QI Q)
  refine r_aload_n (kd112 rfl) rfl rfl ?_
  refine r_iconst (kd112 rfl) (y := 0) (by decide) rfl ?_
  obtain ⟨g, h⟩ := h
  refine r_callVI (d' := d - 1) (by omega) (kd112 rfl) (by decide) rfl rfl rfl rfl (Nat.le_of_ble_eq_true rfl) rfl L111 (Nat.le_of_ble_eq_true rfl) (Nat.le_of_ble_eq_true rfl) g (Nat.zero_le _) (Nat.zero_le _) rfl rfl rfl (b_Verifier_fromTop (by omega) h) (fun x1 M1 h => ?_)
  refine r_istore_n (kd112 rfl) L112 (by decide) rfl rfl ?_
  refine r_aload_n (kd112 rfl) rfl rfl ?_
  refine r_iconst (kd112 rfl) (y := 1) (by decide) rfl ?_
  obtain ⟨g, h⟩ := h
  refine r_callVI (d' := d - 1) (by omega) (kd112 rfl) (by decide) rfl rfl rfl rfl (Nat.le_of_ble_eq_true rfl) rfl L111 (Nat.le_of_ble_eq_true rfl) (Nat.le_of_ble_eq_true rfl) g (Nat.zero_le _) (Nat.zero_le _) rfl rfl rfl (b_Verifier_fromTop (by omega) h) (fun x1 M1 h => ?_)
  refine r_istore (kd112 rfl) L112 (by decide) rfl rfl ?_
  refine r_iload_n (kd112 rfl) rfl rfl ?_
  refine r_tableswitch (kd112 rfl) (u := 344) (qs := [(0, 240), (1, 240), (2, 240), (3, 242), (4, 269), (5, 269), (6, 269), (7, 279), (8, 344), (9, 344), (10, 344), (11, 344), (12, 344), (13, 344), (14, 344), (15, 344), (16, 344), (17, 344), (18, 344), (19, 344), (20, 294), (21, 240), (22, 344), (23, 344), (24, 344), (25, 344), (26, 344), (27, 344), (28, 344), (29, 344), (30, 344), (31, 344), (32, 344), (33, 344), (34, 322), (35, 322), (36, 337), (37, 337), (38, 344), (39, 344), (40, 344), (41, 344), (42, 344), (43, 344), (44, 344), (45, 344), (46, 344), (47, 344), (48, 344), (49, 344), (50, 344), (51, 344), (52, 240)]) rfl rfl rfl (by decide) ?_
  refine ⟨fun c => ?_, fun c => ?_⟩
  · have h := h.1 c
    exact (b_Verifier_isFitPlain_240 hd h).less e_sn
  have h := h.2 c
  refine ⟨fun c => ?_, fun c => ?_⟩
  · have h := h.1 c
    exact (b_Verifier_isFitPlain_240 hd h).less e_sn
  have h := h.2 c
  refine ⟨fun c => ?_, fun c => ?_⟩
  · have h := h.1 c
    exact (b_Verifier_isFitPlain_240 hd h).less e_sn
  have h := h.2 c
  refine ⟨fun c => ?_, fun c => ?_⟩
  · have h := h.1 c
    refine r_aload_n (kd112 rfl) rfl rfl ?_
    obtain ⟨g, h⟩ := h
    refine r_get1 (kd112 rfl) (by decide) rfl g rfl ?_
    refine r_aload_n (kd112 rfl) rfl rfl ?_
    obtain ⟨g, h⟩ := h
    refine r_get2 (kd112 rfl) (by decide) rfl g rfl ?_
    obtain ⟨g, h⟩ := h
    refine r_get2 (kd112 rfl) (by decide) rfl g rfl ?_
    refine r_iload_n (kd112 rfl) rfl rfl ?_
    refine r_iconst (kd112 rfl) (y := 1) (by decide) rfl ?_
    refine r_iadd (kd112 rfl) rfl ?_
    obtain ⟨g, h⟩ := h
    refine r_iaload (kd112 rfl) g rfl ?_
    refine r_callSI (d' := d - 1) (by omega) (kd112 rfl) (by decide) rfl rfl rfl rfl (Nat.le_of_ble_eq_true rfl) rfl L69 (Nat.le_of_ble_eq_true rfl) (Nat.le_of_ble_eq_true rfl) (Nat.zero_le _) (Nat.zero_le _) rfl rfl rfl (b_Program_kindIn (by omega) h) (fun x1 M1 h => ?_)
    refine r_if_eq (kd112 rfl) rfl (fun c => ?_) (fun c => ?_)
    · have h := h.1 c
      refine r_iconst (kd112 rfl) (y := 0) (by decide) rfl ?_
      exact (b_Verifier_isFitPlain_268 hd h).less e_sn
    · have h := h.2 c
      refine r_iconst (kd112 rfl) (y := 1) (by decide) rfl ?_
      refine r_goto (kd112 rfl) ?_
      exact (b_Verifier_isFitPlain_268 hd h).less e_sn
  have h := h.2 c
  refine ⟨fun c => ?_, fun c => ?_⟩
  · have h := h.1 c
    exact (b_Verifier_isFitPlain_269 hd h).less (e_sc (List.mem_of_getElem? (i := 1) rfl) e_sn)
  have h := h.2 c
  refine ⟨fun c => ?_, fun c => ?_⟩
  · have h := h.1 c
    exact (b_Verifier_isFitPlain_269 hd h).less (e_sc (List.mem_of_getElem? (i := 1) rfl) e_sn)
  have h := h.2 c
  refine ⟨fun c => ?_, fun c => ?_⟩
  · have h := h.1 c
    exact (b_Verifier_isFitPlain_269 hd h).less (e_sc (List.mem_of_getElem? (i := 1) rfl) e_sn)
  have h := h.2 c
  refine ⟨fun c => ?_, fun c => ?_⟩
  · have h := h.1 c
    refine r_iload_n (kd112 rfl) rfl rfl ?_
    refine r_if_eq (kd112 rfl) rfl (fun c => ?_) (fun c => ?_)
    · have h := h.1 c
      exact (b_Verifier_isFitPlain_292 hd h).less e_sn
    · have h := h.2 c
      refine r_iload (kd112 rfl) rfl rfl ?_
      refine r_if_eq (kd112 rfl) rfl (fun c => ?_) (fun c => ?_)
      · have h := h.1 c
        exact (b_Verifier_isFitPlain_292 hd h).less e_sn
      · have h := h.2 c
        refine r_iconst (kd112 rfl) (y := 1) (by decide) rfl ?_
        refine r_goto (kd112 rfl) ?_
        exact (b_Verifier_isFitPlain_293 hd h).less e_sn
  have h := h.2 c
  refine ⟨fun c => ?_, fun c => ?_⟩
  · have h := h.1 c
    exact (b_Verifier_isFitPlain_344 hd h).less (e_sc (List.mem_of_getElem? (i := 4) rfl) (e_sc (List.mem_of_getElem? (i := 1) rfl) (e_sc (List.mem_of_getElem? (i := 0) rfl) e_sn)))
  have h := h.2 c
  refine ⟨fun c => ?_, fun c => ?_⟩
  · have h := h.1 c
    exact (b_Verifier_isFitPlain_344 hd h).less (e_sc (List.mem_of_getElem? (i := 4) rfl) (e_sc (List.mem_of_getElem? (i := 1) rfl) (e_sc (List.mem_of_getElem? (i := 0) rfl) e_sn)))
  have h := h.2 c
  refine ⟨fun c => ?_, fun c => ?_⟩
  · have h := h.1 c
    exact (b_Verifier_isFitPlain_344 hd h).less (e_sc (List.mem_of_getElem? (i := 4) rfl) (e_sc (List.mem_of_getElem? (i := 1) rfl) (e_sc (List.mem_of_getElem? (i := 0) rfl) e_sn)))
  have h := h.2 c
  refine ⟨fun c => ?_, fun c => ?_⟩
  · have h := h.1 c
    exact (b_Verifier_isFitPlain_344 hd h).less (e_sc (List.mem_of_getElem? (i := 4) rfl) (e_sc (List.mem_of_getElem? (i := 1) rfl) (e_sc (List.mem_of_getElem? (i := 0) rfl) e_sn)))
  have h := h.2 c
  refine ⟨fun c => ?_, fun c => ?_⟩
  · have h := h.1 c
    exact (b_Verifier_isFitPlain_344 hd h).less (e_sc (List.mem_of_getElem? (i := 4) rfl) (e_sc (List.mem_of_getElem? (i := 1) rfl) (e_sc (List.mem_of_getElem? (i := 0) rfl) e_sn)))
  have h := h.2 c
  refine ⟨fun c => ?_, fun c => ?_⟩
  · have h := h.1 c
    exact (b_Verifier_isFitPlain_344 hd h).less (e_sc (List.mem_of_getElem? (i := 4) rfl) (e_sc (List.mem_of_getElem? (i := 1) rfl) (e_sc (List.mem_of_getElem? (i := 0) rfl) e_sn)))
  have h := h.2 c
  refine ⟨fun c => ?_, fun c => ?_⟩
  · have h := h.1 c
    exact (b_Verifier_isFitPlain_344 hd h).less (e_sc (List.mem_of_getElem? (i := 4) rfl) (e_sc (List.mem_of_getElem? (i := 1) rfl) (e_sc (List.mem_of_getElem? (i := 0) rfl) e_sn)))
  have h := h.2 c
  refine ⟨fun c => ?_, fun c => ?_⟩
  · have h := h.1 c
    exact (b_Verifier_isFitPlain_344 hd h).less (e_sc (List.mem_of_getElem? (i := 4) rfl) (e_sc (List.mem_of_getElem? (i := 1) rfl) (e_sc (List.mem_of_getElem? (i := 0) rfl) e_sn)))
  have h := h.2 c
  refine ⟨fun c => ?_, fun c => ?_⟩
  · have h := h.1 c
    exact (b_Verifier_isFitPlain_344 hd h).less (e_sc (List.mem_of_getElem? (i := 4) rfl) (e_sc (List.mem_of_getElem? (i := 1) rfl) (e_sc (List.mem_of_getElem? (i := 0) rfl) e_sn)))
  have h := h.2 c
  refine ⟨fun c => ?_, fun c => ?_⟩
  · have h := h.1 c
    exact (b_Verifier_isFitPlain_344 hd h).less (e_sc (List.mem_of_getElem? (i := 4) rfl) (e_sc (List.mem_of_getElem? (i := 1) rfl) (e_sc (List.mem_of_getElem? (i := 0) rfl) e_sn)))
  have h := h.2 c
  refine ⟨fun c => ?_, fun c => ?_⟩
  · have h := h.1 c
    exact (b_Verifier_isFitPlain_344 hd h).less (e_sc (List.mem_of_getElem? (i := 4) rfl) (e_sc (List.mem_of_getElem? (i := 1) rfl) (e_sc (List.mem_of_getElem? (i := 0) rfl) e_sn)))
  have h := h.2 c
  refine ⟨fun c => ?_, fun c => ?_⟩
  · have h := h.1 c
    exact (b_Verifier_isFitPlain_344 hd h).less (e_sc (List.mem_of_getElem? (i := 4) rfl) (e_sc (List.mem_of_getElem? (i := 1) rfl) (e_sc (List.mem_of_getElem? (i := 0) rfl) e_sn)))
  have h := h.2 c
  refine ⟨fun c => ?_, fun c => ?_⟩
  · have h := h.1 c
    refine r_aload_n (kd112 rfl) rfl rfl ?_
    obtain ⟨g, h⟩ := h
    refine r_get1 (kd112 rfl) (by decide) rfl g rfl ?_
    refine r_aload_n (kd112 rfl) rfl rfl ?_
    obtain ⟨g, h⟩ := h
    refine r_get2 (kd112 rfl) (by decide) rfl g rfl ?_
    obtain ⟨g, h⟩ := h
    refine r_get2 (kd112 rfl) (by decide) rfl g rfl ?_
    refine r_iload_n (kd112 rfl) rfl rfl ?_
    refine r_iconst (kd112 rfl) (y := 1) (by decide) rfl ?_
    refine r_iadd (kd112 rfl) rfl ?_
    obtain ⟨g, h⟩ := h
    refine r_iaload (kd112 rfl) g rfl ?_
    refine r_callSI (d' := d - 1) (by omega) (kd112 rfl) (by decide) rfl rfl rfl rfl (Nat.le_of_ble_eq_true rfl) rfl L69 (Nat.le_of_ble_eq_true rfl) (Nat.le_of_ble_eq_true rfl) (Nat.zero_le _) (Nat.zero_le _) rfl rfl rfl (b_Program_kindIn (by omega) h) (fun x1 M1 h => ?_)
    refine r_iconst (kd112 rfl) (y := 1) (by decide) rfl ?_
    refine r_icmp_ne (kd112 rfl) rfl (fun c => ?_) (fun c => ?_)
    · have h := h.1 c
      refine r_iconst (kd112 rfl) (y := 0) (by decide) rfl ?_
      exact (b_Verifier_isFitPlain_321 hd h).less e_sn
    · have h := h.2 c
      refine r_iconst (kd112 rfl) (y := 1) (by decide) rfl ?_
      refine r_goto (kd112 rfl) ?_
      exact (b_Verifier_isFitPlain_321 hd h).less e_sn
  have h := h.2 c
  refine ⟨fun c => ?_, fun c => ?_⟩
  · have h := h.1 c
    exact (b_Verifier_isFitPlain_240 hd h).less e_sn
  have h := h.2 c
  refine ⟨fun c => ?_, fun c => ?_⟩
  · have h := h.1 c
    exact (b_Verifier_isFitPlain_344 hd h).less (e_sc (List.mem_of_getElem? (i := 4) rfl) (e_sc (List.mem_of_getElem? (i := 1) rfl) (e_sc (List.mem_of_getElem? (i := 0) rfl) e_sn)))
  have h := h.2 c
  refine ⟨fun c => ?_, fun c => ?_⟩
  · have h := h.1 c
    exact (b_Verifier_isFitPlain_344 hd h).less (e_sc (List.mem_of_getElem? (i := 4) rfl) (e_sc (List.mem_of_getElem? (i := 1) rfl) (e_sc (List.mem_of_getElem? (i := 0) rfl) e_sn)))
  have h := h.2 c
  refine ⟨fun c => ?_, fun c => ?_⟩
  · have h := h.1 c
    exact (b_Verifier_isFitPlain_344 hd h).less (e_sc (List.mem_of_getElem? (i := 4) rfl) (e_sc (List.mem_of_getElem? (i := 1) rfl) (e_sc (List.mem_of_getElem? (i := 0) rfl) e_sn)))
  have h := h.2 c
  refine ⟨fun c => ?_, fun c => ?_⟩
  · have h := h.1 c
    exact (b_Verifier_isFitPlain_344 hd h).less (e_sc (List.mem_of_getElem? (i := 4) rfl) (e_sc (List.mem_of_getElem? (i := 1) rfl) (e_sc (List.mem_of_getElem? (i := 0) rfl) e_sn)))
  have h := h.2 c
  refine ⟨fun c => ?_, fun c => ?_⟩
  · have h := h.1 c
    exact (b_Verifier_isFitPlain_344 hd h).less (e_sc (List.mem_of_getElem? (i := 4) rfl) (e_sc (List.mem_of_getElem? (i := 1) rfl) (e_sc (List.mem_of_getElem? (i := 0) rfl) e_sn)))
  have h := h.2 c
  refine ⟨fun c => ?_, fun c => ?_⟩
  · have h := h.1 c
    exact (b_Verifier_isFitPlain_344 hd h).less (e_sc (List.mem_of_getElem? (i := 4) rfl) (e_sc (List.mem_of_getElem? (i := 1) rfl) (e_sc (List.mem_of_getElem? (i := 0) rfl) e_sn)))
  have h := h.2 c
  refine ⟨fun c => ?_, fun c => ?_⟩
  · have h := h.1 c
    exact (b_Verifier_isFitPlain_344 hd h).less (e_sc (List.mem_of_getElem? (i := 4) rfl) (e_sc (List.mem_of_getElem? (i := 1) rfl) (e_sc (List.mem_of_getElem? (i := 0) rfl) e_sn)))
  have h := h.2 c
  refine ⟨fun c => ?_, fun c => ?_⟩
  · have h := h.1 c
    exact (b_Verifier_isFitPlain_344 hd h).less (e_sc (List.mem_of_getElem? (i := 4) rfl) (e_sc (List.mem_of_getElem? (i := 1) rfl) (e_sc (List.mem_of_getElem? (i := 0) rfl) e_sn)))
  have h := h.2 c
  refine ⟨fun c => ?_, fun c => ?_⟩
  · have h := h.1 c
    exact (b_Verifier_isFitPlain_344 hd h).less (e_sc (List.mem_of_getElem? (i := 4) rfl) (e_sc (List.mem_of_getElem? (i := 1) rfl) (e_sc (List.mem_of_getElem? (i := 0) rfl) e_sn)))
  have h := h.2 c
  refine ⟨fun c => ?_, fun c => ?_⟩
  · have h := h.1 c
    exact (b_Verifier_isFitPlain_344 hd h).less (e_sc (List.mem_of_getElem? (i := 4) rfl) (e_sc (List.mem_of_getElem? (i := 1) rfl) (e_sc (List.mem_of_getElem? (i := 0) rfl) e_sn)))
  have h := h.2 c
  refine ⟨fun c => ?_, fun c => ?_⟩
  · have h := h.1 c
    exact (b_Verifier_isFitPlain_344 hd h).less (e_sc (List.mem_of_getElem? (i := 4) rfl) (e_sc (List.mem_of_getElem? (i := 1) rfl) (e_sc (List.mem_of_getElem? (i := 0) rfl) e_sn)))
  have h := h.2 c
  refine ⟨fun c => ?_, fun c => ?_⟩
  · have h := h.1 c
    exact (b_Verifier_isFitPlain_344 hd h).less (e_sc (List.mem_of_getElem? (i := 4) rfl) (e_sc (List.mem_of_getElem? (i := 1) rfl) (e_sc (List.mem_of_getElem? (i := 0) rfl) e_sn)))
  have h := h.2 c
  refine ⟨fun c => ?_, fun c => ?_⟩
  · have h := h.1 c
    exact (b_Verifier_isFitPlain_322 hd h).less (e_sc (List.mem_of_getElem? (i := 1) rfl) e_sn)
  have h := h.2 c
  refine ⟨fun c => ?_, fun c => ?_⟩
  · have h := h.1 c
    exact (b_Verifier_isFitPlain_322 hd h).less (e_sc (List.mem_of_getElem? (i := 1) rfl) e_sn)
  have h := h.2 c
  refine ⟨fun c => ?_, fun c => ?_⟩
  · have h := h.1 c
    exact (b_Verifier_isFitPlain_337 hd h).less (e_sc (List.mem_of_getElem? (i := 1) rfl) (e_sc (List.mem_of_getElem? (i := 0) rfl) e_sn))
  have h := h.2 c
  refine ⟨fun c => ?_, fun c => ?_⟩
  · have h := h.1 c
    exact (b_Verifier_isFitPlain_337 hd h).less (e_sc (List.mem_of_getElem? (i := 1) rfl) (e_sc (List.mem_of_getElem? (i := 0) rfl) e_sn))
  have h := h.2 c
  refine ⟨fun c => ?_, fun c => ?_⟩
  · have h := h.1 c
    exact (b_Verifier_isFitPlain_344 hd h).less (e_sc (List.mem_of_getElem? (i := 4) rfl) (e_sc (List.mem_of_getElem? (i := 1) rfl) (e_sc (List.mem_of_getElem? (i := 0) rfl) e_sn)))
  have h := h.2 c
  refine ⟨fun c => ?_, fun c => ?_⟩
  · have h := h.1 c
    exact (b_Verifier_isFitPlain_344 hd h).less (e_sc (List.mem_of_getElem? (i := 4) rfl) (e_sc (List.mem_of_getElem? (i := 1) rfl) (e_sc (List.mem_of_getElem? (i := 0) rfl) e_sn)))
  have h := h.2 c
  refine ⟨fun c => ?_, fun c => ?_⟩
  · have h := h.1 c
    exact (b_Verifier_isFitPlain_344 hd h).less (e_sc (List.mem_of_getElem? (i := 4) rfl) (e_sc (List.mem_of_getElem? (i := 1) rfl) (e_sc (List.mem_of_getElem? (i := 0) rfl) e_sn)))
  have h := h.2 c
  refine ⟨fun c => ?_, fun c => ?_⟩
  · have h := h.1 c
    exact (b_Verifier_isFitPlain_344 hd h).less (e_sc (List.mem_of_getElem? (i := 4) rfl) (e_sc (List.mem_of_getElem? (i := 1) rfl) (e_sc (List.mem_of_getElem? (i := 0) rfl) e_sn)))
  have h := h.2 c
  refine ⟨fun c => ?_, fun c => ?_⟩
  · have h := h.1 c
    exact (b_Verifier_isFitPlain_344 hd h).less (e_sc (List.mem_of_getElem? (i := 4) rfl) (e_sc (List.mem_of_getElem? (i := 1) rfl) (e_sc (List.mem_of_getElem? (i := 0) rfl) e_sn)))
  have h := h.2 c
  refine ⟨fun c => ?_, fun c => ?_⟩
  · have h := h.1 c
    exact (b_Verifier_isFitPlain_344 hd h).less (e_sc (List.mem_of_getElem? (i := 4) rfl) (e_sc (List.mem_of_getElem? (i := 1) rfl) (e_sc (List.mem_of_getElem? (i := 0) rfl) e_sn)))
  have h := h.2 c
  refine ⟨fun c => ?_, fun c => ?_⟩
  · have h := h.1 c
    exact (b_Verifier_isFitPlain_344 hd h).less (e_sc (List.mem_of_getElem? (i := 4) rfl) (e_sc (List.mem_of_getElem? (i := 1) rfl) (e_sc (List.mem_of_getElem? (i := 0) rfl) e_sn)))
  have h := h.2 c
  refine ⟨fun c => ?_, fun c => ?_⟩
  · have h := h.1 c
    exact (b_Verifier_isFitPlain_344 hd h).less (e_sc (List.mem_of_getElem? (i := 4) rfl) (e_sc (List.mem_of_getElem? (i := 1) rfl) (e_sc (List.mem_of_getElem? (i := 0) rfl) e_sn)))
  have h := h.2 c
  refine ⟨fun c => ?_, fun c => ?_⟩
  · have h := h.1 c
    exact (b_Verifier_isFitPlain_344 hd h).less (e_sc (List.mem_of_getElem? (i := 4) rfl) (e_sc (List.mem_of_getElem? (i := 1) rfl) (e_sc (List.mem_of_getElem? (i := 0) rfl) e_sn)))
  have h := h.2 c
  refine ⟨fun c => ?_, fun c => ?_⟩
  · have h := h.1 c
    exact (b_Verifier_isFitPlain_344 hd h).less (e_sc (List.mem_of_getElem? (i := 4) rfl) (e_sc (List.mem_of_getElem? (i := 1) rfl) (e_sc (List.mem_of_getElem? (i := 0) rfl) e_sn)))
  have h := h.2 c
  refine ⟨fun c => ?_, fun c => ?_⟩
  · have h := h.1 c
    exact (b_Verifier_isFitPlain_344 hd h).less (e_sc (List.mem_of_getElem? (i := 4) rfl) (e_sc (List.mem_of_getElem? (i := 1) rfl) (e_sc (List.mem_of_getElem? (i := 0) rfl) e_sn)))
  have h := h.2 c
  refine ⟨fun c => ?_, fun c => ?_⟩
  · have h := h.1 c
    exact (b_Verifier_isFitPlain_344 hd h).less (e_sc (List.mem_of_getElem? (i := 4) rfl) (e_sc (List.mem_of_getElem? (i := 1) rfl) (e_sc (List.mem_of_getElem? (i := 0) rfl) e_sn)))
  have h := h.2 c
  refine ⟨fun c => ?_, fun c => ?_⟩
  · have h := h.1 c
    exact (b_Verifier_isFitPlain_344 hd h).less (e_sc (List.mem_of_getElem? (i := 4) rfl) (e_sc (List.mem_of_getElem? (i := 1) rfl) (e_sc (List.mem_of_getElem? (i := 0) rfl) e_sn)))
  have h := h.2 c
  refine ⟨fun c => ?_, fun c => ?_⟩
  · have h := h.1 c
    exact (b_Verifier_isFitPlain_344 hd h).less (e_sc (List.mem_of_getElem? (i := 4) rfl) (e_sc (List.mem_of_getElem? (i := 1) rfl) (e_sc (List.mem_of_getElem? (i := 0) rfl) e_sn)))
  have h := h.2 c
  refine ⟨fun c => ?_, fun c => ?_⟩
  · have h := h.1 c
    exact (b_Verifier_isFitPlain_240 hd h).less e_sn
  have h := h.2 c
  show e_E 112 _ _ _ 344 _ _ _ _
  exact (b_Verifier_isFitPlain_344 hd h).less (e_sc (List.mem_of_getElem? (i := 4) rfl) (e_sc (List.mem_of_getElem? (i := 1) rfl) (e_sc (List.mem_of_getElem? (i := 0) rfl) e_sn)))
/-- TierMill$Verifier.isFit(II)Z -/
theorem kd117 {pc : Nat} {q : eI} (h : e_d117.lookup pc = some q) : e_dec 117 pc = some q := h
theorem L117 : (e_m 117).2.2.1 = 3 := rfl
theorem R117 : (e_m 117).2.2.2.1 = (some .boolean) := rfl
def w_Verifier_isFit_15 (M : eM) (Q : Int32 → eM → Prop) : Prop := ((1 : Int32) = 0 ∨ (1 : Int32) = 1) ∧ Q (1 : Int32) M
theorem b_Verifier_isFit_15 {d : Nat} {M : eM} {Q : Int32 → eM → Prop} (hd : 1 ≤ d) (h : w_Verifier_isFit_15 M Q ) : e_E 117 d 0 0 15 [] [] M (e_QI Q) := by
  unfold w_Verifier_isFit_15 at h
  refine r_iconst (kd117 rfl) (y := 1) (by decide) rfl ?_
  exact r_zreturn (kd117 rfl) R117 h.1 h.2
def w_Verifier_isFit_52 (s0 : Int32) (M : eM) (Q : Int32 → eM → Prop) : Prop := (s0 = 0 ∨ s0 = 1) ∧ Q s0 M
theorem b_Verifier_isFit_52 {d : Nat} {s0 : Int32} {M : eM} {Q : Int32 → eM → Prop} (hd : 1 ≤ d) (h : w_Verifier_isFit_52 s0 M Q ) : e_E 117 d 0 0 52 [] [.int s0] M (e_QI Q) := by
  unfold w_Verifier_isFit_52 at h
  exact r_zreturn (kd117 rfl) R117 h.1 h.2
def w_Verifier_isFit_51 (M : eM) (Q : Int32 → eM → Prop) : Prop := w_Verifier_isFit_52 0 M Q
theorem b_Verifier_isFit_51 {d : Nat} {M : eM} {Q : Int32 → eM → Prop} (hd : 1 ≤ d) (h : w_Verifier_isFit_51 M Q ) : e_E 117 d 0 0 51 [] [] M (e_QI Q) := by
  unfold w_Verifier_isFit_51 at h
  refine r_iconst (kd117 rfl) (y := 0) (by decide) rfl ?_
  exact (b_Verifier_isFit_52 hd h).less e_sn
def w_Verifier_isFit_17 (l0 : Nat) (l1 : Int32) (l2 : Int32) (M : eM) (Q : Int32 → eM → Prop) : Prop := (l1 < 16 → w_Verifier_isFit_51 M Q) ∧ (¬ l1 < 16 → (l2 < 16 → w_Verifier_isFit_51 M Q) ∧ (¬ l2 < 16 → e_ob M l0 10 ∧ e_ob M (gr M l0 3) 6 ∧ w_Program_isOrBelow (gr M l0 3) (l1 - 16) (l2 - 16) M (fun (v2 : Int32) (M1 : eM) => (v2 = 0 → w_Verifier_isFit_51 M1 Q) ∧ (¬ v2 = 0 → w_Verifier_isFit_52 1 M1 Q))))
theorem b_Verifier_isFit_17 {d : Nat} {l0 : Nat} {l1 : Int32} {l2 : Int32} {M : eM} {Q : Int32 → eM → Prop} (hd : 1 ≤ d) (h : w_Verifier_isFit_17 l0 l1 l2 M Q ) : e_E 117 d 0 0 17 [(0, .ref l0), (1, .int l1), (2, .int l2)] [] M (e_QI Q) := by
  unfold w_Verifier_isFit_17 at h
  refine r_iload_n (kd117 rfl) rfl rfl ?_
  refine r_bipush (kd117 rfl) (y := 16) (by decide) rfl ?_
  refine r_icmp_lt (kd117 rfl) rfl (fun c => ?_) (fun c => ?_)
  · have h := h.1 c
    exact (b_Verifier_isFit_51 hd h).less e_sn
  · have h := h.2 c
    refine r_iload_n (kd117 rfl) rfl rfl ?_
    refine r_bipush (kd117 rfl) (y := 16) (by decide) rfl ?_
    refine r_icmp_lt (kd117 rfl) rfl (fun c => ?_) (fun c => ?_)
    · have h := h.1 c
      exact (b_Verifier_isFit_51 hd h).less e_sn
    · have h := h.2 c
      refine r_aload_n (kd117 rfl) rfl rfl ?_
      obtain ⟨g, h⟩ := h
      refine r_get2 (kd117 rfl) (by decide) rfl g rfl ?_
      refine r_iload_n (kd117 rfl) rfl rfl ?_
      refine r_bipush (kd117 rfl) (y := 16) (by decide) rfl ?_
      refine r_isub (kd117 rfl) rfl ?_
      refine r_iload_n (kd117 rfl) rfl rfl ?_
      refine r_bipush (kd117 rfl) (y := 16) (by decide) rfl ?_
      refine r_isub (kd117 rfl) rfl ?_
      obtain ⟨g, h⟩ := h
      refine r_callVI (d' := d - 1) (by omega) (kd117 rfl) (by decide) rfl rfl rfl rfl (Nat.le_of_ble_eq_true rfl) rfl L66 (Nat.le_of_ble_eq_true rfl) (Nat.le_of_ble_eq_true rfl) g (Nat.zero_le _) (Nat.zero_le _) rfl rfl rfl (b_Program_isOrBelow (by omega) h) (fun x1 M1 h => ?_)
      refine r_if_eq (kd117 rfl) rfl (fun c => ?_) (fun c => ?_)
      · have h := h.1 c
        exact (b_Verifier_isFit_51 hd h).less e_sn
      · have h := h.2 c
        refine r_iconst (kd117 rfl) (y := 1) (by decide) rfl ?_
        refine r_goto (kd117 rfl) ?_
        exact (b_Verifier_isFit_52 hd h).less e_sn
def w_Verifier_isFit (l0 : Nat) (l1 : Int32) (l2 : Int32) (M : eM) (Q : Int32 → eM → Prop) : Prop := (l1 = l2 → w_Verifier_isFit_15 M Q) ∧ (¬ l1 = l2 → (¬ l1 = 3 → w_Verifier_isFit_17 l0 l1 l2 M Q) ∧ (l1 = 3 → (l2 = 1 → w_Verifier_isFit_17 l0 l1 l2 M Q) ∧ (¬ l2 = 1 → w_Verifier_isFit_15 M Q)))
theorem b_Verifier_isFit {d : Nat} {l0 : Nat} {l1 : Int32} {l2 : Int32} {M : eM} {Q : Int32 → eM → Prop} (hd : 1 ≤ d) (h : w_Verifier_isFit l0 l1 l2 M Q) : e_CI 117 d 0 0 [.ref l0, .int l1, .int l2] M Q := by
  unfold w_Verifier_isFit at h
  show e_E 117 d 0 0 0 [(0, .ref l0), (1, .int l1), (2, .int l2)] [] M (e_QI Q)
  refine r_iload_n (kd117 rfl) rfl rfl ?_
  refine r_iload_n (kd117 rfl) rfl rfl ?_
  refine r_icmp_eq (kd117 rfl) rfl (fun c => ?_) (fun c => ?_)
  · have h := h.1 c
    exact (b_Verifier_isFit_15 hd h).less e_sn
  · have h := h.2 c
    refine r_iload_n (kd117 rfl) rfl rfl ?_
    refine r_iconst (kd117 rfl) (y := 3) (by decide) rfl ?_
    refine r_icmp_ne (kd117 rfl) rfl (fun c => ?_) (fun c => ?_)
    · have h := h.1 c
      exact (b_Verifier_isFit_17 hd h).less (e_sc (List.mem_of_getElem? (i := 0) rfl) (e_sc (List.mem_of_getElem? (i := 1) rfl) (e_sc (List.mem_of_getElem? (i := 2) rfl) e_sn)))
    · have h := h.2 c
      refine r_iload_n (kd117 rfl) rfl rfl ?_
      refine r_iconst (kd117 rfl) (y := 1) (by decide) rfl ?_
      refine r_icmp_eq (kd117 rfl) rfl (fun c => ?_) (fun c => ?_)
      · have h := h.1 c
        exact (b_Verifier_isFit_17 hd h).less (e_sc (List.mem_of_getElem? (i := 0) rfl) (e_sc (List.mem_of_getElem? (i := 1) rfl) (e_sc (List.mem_of_getElem? (i := 2) rfl) e_sn)))
      · have h := h.2 c
        exact (b_Verifier_isFit_15 hd h).less e_sn
