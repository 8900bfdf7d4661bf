/-- TierMill$Decoder.<init>(LTierMill$Program;)V -/
theorem kd0 {pc : Nat} {q : eI} (h : e_d0.lookup pc = some q) : e_dec 0 pc = some q := h
theorem L0 : (e_m 0).2.2.1 = 2 := rfl
theorem R0 : (e_m 0).2.2.2.1 = none := rfl
def w_Decoder_init (l0 : Nat) (l1 : Nat) (M : eM) (Q : eM → Prop) : Prop := e_c0 ≤ l0 ∧ e_ob M l0 0 ∧ ∀ M1 : eM, M1 = e_sr M l0 2 l1 → Q M1
theorem b_Decoder_init {d : Nat} {l0 : Nat} {l1 : Nat} {M : eM} {Q : eM → Prop} (hd : 0 ≤ d) (h : w_Decoder_init l0 l1 M Q) : e_CV 0 d 0 0 [.ref l0, .ref l1] M Q := by
  unfold w_Decoder_init at h
  show e_E 0 d 0 0 0 [(0, .ref l0), (1, .ref l1)] [] M (e_QV Q)
  refine r_aload_n (kd0 rfl) rfl rfl ?_
  obtain ⟨g, h⟩ := h
  refine r_objInit (kd0 rfl) g (Nat.le_of_ble_eq_true rfl) rfl ?_
  refine r_aload_n (kd0 rfl) rfl rfl ?_
  refine r_aload_n (kd0 rfl) rfl rfl ?_
  obtain ⟨g, h⟩ := h
  have h := h _ rfl
  refine r_put2 (kd0 rfl) (by decide) rfl g rfl ?_
  exact r_return (kd0 rfl) R0 h
/-- TierMill$Row.<init>(I)V -/
theorem kd17 {pc : Nat} {q : eI} (h : e_d17.lookup pc = some q) : e_dec 17 pc = some q := h
theorem L17 : (e_m 17).2.2.1 = 2 := rfl
theorem R17 : (e_m 17).2.2.2.1 = none := rfl
def w_Row_init (kc ks : Nat) (l0 : Nat) (l1 : Int32) (M : eM) (Q : eM → Prop) : Prop := e_c0 ≤ l0 ∧ ¬ (if 0 < l1 then l1 else 0) < 0 ∧ (if 0 < l1 then l1 else 0).toNatClampNeg ≤ 400000 ∧ 1 ≤ kc ∧ (if 0 < l1 then l1 else 0).toNatClampNeg ≤ ks ∧ ∀ M1 : eM, M1 = e_new M 20 (if 0 < l1 then l1 else 0).toNatClampNeg → e_ob M1 l0 7 ∧ ∀ M2 : eM, M2 = e_sr M1 l0 0 M.1 → Q M2
theorem b_Row_init {d : Nat} {kc ks : Nat} {l0 : Nat} {l1 : Int32} {M : eM} {Q : eM → Prop} (hd : 0 ≤ d) (h : w_Row_init kc ks l0 l1 M Q) : e_CV 17 d kc ks [.ref l0, .int l1] M Q := by
  unfold w_Row_init at h
  show e_E 17 d kc ks 0 [(0, .ref l0), (1, .int l1)] [] M (e_QV Q)
  refine r_aload_n (kd17 rfl) rfl rfl ?_
  obtain ⟨g, h⟩ := h
  refine r_objInit (kd17 rfl) g (Nat.le_of_ble_eq_true rfl) rfl ?_
  refine r_aload_n (kd17 rfl) rfl rfl ?_
  refine r_iconst (kd17 rfl) (y := 0) (by decide) rfl ?_
  refine r_iload_n (kd17 rfl) rfl rfl ?_
  refine r_mmax (kd17 rfl) (Nat.le_of_ble_eq_true rfl) rfl ?_
  obtain ⟨g0, g3, g1, g2, h⟩ := h
  have h := h _ rfl
  refine r_newarray (kd17 rfl) (by decide) g0 g3 g1 g2 rfl ?_
  obtain ⟨g, h⟩ := h
  have h := h _ rfl
  refine r_put2 (kd17 rfl) (by decide) rfl g rfl ?_
  exact r_return (kd17 rfl) R17 h
/-- TierMill$Frames.<init>()V -/
theorem kd1 {pc : Nat} {q : eI} (h : e_d1.lookup pc = some q) : e_dec 1 pc = some q := h
theorem L1 : (e_m 1).2.2.1 = 1 := rfl
theorem R1 : (e_m 1).2.2.2.1 = none := rfl
set_option maxRecDepth 100000 in
def w_Frames_init (kc ks : Nat) (l0 : Nat) (M : eM) (Q : eM → Prop) : Prop := e_c0 ≤ l0 ∧ 1 ≤ kc ∧ 1 ≤ ks ∧ ∀ M1 : eM, M1 = e_new M 7 0 → e_c0 ≤ M.1 ∧ ∃ kc3 ks4 : Nat, kc3 ≤ (kc - 1) ∧ ks4 ≤ (ks - 1) ∧ w_Row_init kc3 ks4 M.1 64 M1 (fun (M2 : eM) => e_ob M2 l0 1 ∧ ∀ M5 : eM, M5 = e_sr M2 l0 1 M.1 → 1 ≤ (kc - 1 - kc3) ∧ 1 ≤ (ks - 1 - ks4) ∧ ∀ M6 : eM, M6 = e_new M5 7 0 → e_c0 ≤ M5.1 ∧ ∃ kc8 ks9 : Nat, kc8 ≤ (kc - 1 - kc3 - 1) ∧ ks9 ≤ (ks - 1 - ks4 - 1) ∧ w_Row_init kc8 ks9 M5.1 64 M6 (fun (M7 : eM) => e_ob M7 l0 1 ∧ ∀ M10 : eM, M10 = e_sr M7 l0 2 M5.1 → 1 ≤ (kc - 1 - kc3 - 1 - kc8) ∧ 1 ≤ (ks - 1 - ks4 - 1 - ks9) ∧ ∀ M11 : eM, M11 = e_new M10 7 0 → e_c0 ≤ M10.1 ∧ ∃ kc13 ks14 : Nat, kc13 ≤ (kc - 1 - kc3 - 1 - kc8 - 1) ∧ ks14 ≤ (ks - 1 - ks4 - 1 - ks9 - 1) ∧ w_Row_init kc13 ks14 M10.1 64 M11 (fun (M12 : eM) => e_ob M12 l0 1 ∧ ∀ M15 : eM, M15 = e_sr M12 l0 3 M10.1 → 1 ≤ (kc - 1 - kc3 - 1 - kc8 - 1 - kc13) ∧ 1 ≤ (ks - 1 - ks4 - 1 - ks9 - 1 - ks14) ∧ ∀ M16 : eM, M16 = e_new M15 7 0 → e_c0 ≤ M15.1 ∧ ∃ kc18 ks19 : Nat, kc18 ≤ (kc - 1 - kc3 - 1 - kc8 - 1 - kc13 - 1) ∧ ks19 ≤ (ks - 1 - ks4 - 1 - ks9 - 1 - ks14 - 1) ∧ w_Row_init kc18 ks19 M15.1 64 M16 (fun (M17 : eM) => e_ob M17 l0 1 ∧ ∀ M20 : eM, M20 = e_sr M17 l0 4 M15.1 → 1 ≤ (kc - 1 - kc3 - 1 - kc8 - 1 - kc13 - 1 - kc18) ∧ 1 ≤ (ks - 1 - ks4 - 1 - ks9 - 1 - ks14 - 1 - ks19) ∧ ∀ M21 : eM, M21 = e_new M20 7 0 → e_c0 ≤ M20.1 ∧ ∃ kc23 ks24 : Nat, kc23 ≤ (kc - 1 - kc3 - 1 - kc8 - 1 - kc13 - 1 - kc18 - 1) ∧ ks24 ≤ (ks - 1 - ks4 - 1 - ks9 - 1 - ks14 - 1 - ks19 - 1) ∧ w_Row_init kc23 ks24 M20.1 64 M21 (fun (M22 : eM) => e_ob M22 l0 1 ∧ ∀ M25 : eM, M25 = e_sr M22 l0 5 M20.1 → 1 ≤ (kc - 1 - kc3 - 1 - kc8 - 1 - kc13 - 1 - kc18 - 1 - kc23) ∧ 1 ≤ (ks - 1 - ks4 - 1 - ks9 - 1 - ks14 - 1 - ks19 - 1 - ks24) ∧ ∀ M26 : eM, M26 = e_new M25 7 0 → e_c0 ≤ M25.1 ∧ ∃ kc28 ks29 : Nat, kc28 ≤ (kc - 1 - kc3 - 1 - kc8 - 1 - kc13 - 1 - kc18 - 1 - kc23 - 1) ∧ ks29 ≤ (ks - 1 - ks4 - 1 - ks9 - 1 - ks14 - 1 - ks19 - 1 - ks24 - 1) ∧ w_Row_init kc28 ks29 M25.1 64 M26 (fun (M27 : eM) => e_ob M27 l0 1 ∧ ∀ M30 : eM, M30 = e_sr M27 l0 6 M25.1 → 1 ≤ (kc - 1 - kc3 - 1 - kc8 - 1 - kc13 - 1 - kc18 - 1 - kc23 - 1 - kc28) ∧ 1 ≤ (ks - 1 - ks4 - 1 - ks9 - 1 - ks14 - 1 - ks19 - 1 - ks24 - 1 - ks29) ∧ ∀ M31 : eM, M31 = e_new M30 7 0 → e_c0 ≤ M30.1 ∧ ∃ kc33 ks34 : Nat, kc33 ≤ (kc - 1 - kc3 - 1 - kc8 - 1 - kc13 - 1 - kc18 - 1 - kc23 - 1 - kc28 - 1) ∧ ks34 ≤ (ks - 1 - ks4 - 1 - ks9 - 1 - ks14 - 1 - ks19 - 1 - ks24 - 1 - ks29 - 1) ∧ w_Row_init kc33 ks34 M30.1 1024 M31 (fun (M32 : eM) => e_ob M32 l0 1 ∧ ∀ M35 : eM, M35 = e_sr M32 l0 7 M30.1 → Q M35)))))))
set_option maxRecDepth 100000 in
theorem b_Frames_init {d : Nat} {kc ks : Nat} {l0 : Nat} {M : eM} {Q : eM → Prop} (hd : 1 ≤ d) (h : w_Frames_init kc ks l0 M Q) : e_CV 1 d kc ks [.ref l0] M Q := by
  unfold w_Frames_init at h
  show e_E 1 d kc ks 0 [(0, .ref l0)] [] M (e_QV Q)
  refine r_aload_n (kd1 rfl) rfl rfl ?_
  obtain ⟨g, h⟩ := h
  refine r_objInit (kd1 rfl) g (Nat.le_of_ble_eq_true rfl) rfl ?_
  refine r_aload_n (kd1 rfl) rfl rfl ?_
  obtain ⟨g1, g2, h⟩ := h
  have h := h _ rfl
  refine r_new (kd1 rfl) (by decide) (n := 1) rfl g1 g2 rfl ?_
  refine r_dup (kd1 rfl) rfl rfl ?_
  refine r_bipush (kd1 rfl) (y := 64) (by decide) rfl ?_
  obtain ⟨g, h⟩ := h
  obtain ⟨mc, ms, q1, q2, h⟩ := h
  refine r_callIV (d' := d - 1) (by omega) (kd1 rfl) (by decide) rfl rfl rfl rfl (Nat.le_of_ble_eq_true rfl) rfl L17 (Nat.le_of_ble_eq_true rfl) (Nat.le_of_ble_eq_true rfl) g q1 q2 rfl rfl rfl (b_Row_init (by omega) h) (fun M1 h => ?_)
  obtain ⟨g, h⟩ := h
  have h := h _ rfl
  refine r_put2 (kd1 rfl) (by decide) rfl g rfl ?_
  refine r_aload_n (kd1 rfl) rfl rfl ?_
  obtain ⟨g1, g2, h⟩ := h
  have h := h _ rfl
  refine r_new (kd1 rfl) (by decide) (n := 1) rfl g1 g2 rfl ?_
  refine r_dup (kd1 rfl) rfl rfl ?_
  refine r_bipush (kd1 rfl) (y := 64) (by decide) rfl ?_
  obtain ⟨g, h⟩ := h
  obtain ⟨mc, ms, q1, q2, h⟩ := h
  refine r_callIV (d' := d - 1) (by omega) (kd1 rfl) (by decide) rfl rfl rfl rfl (Nat.le_of_ble_eq_true rfl) rfl L17 (Nat.le_of_ble_eq_true rfl) (Nat.le_of_ble_eq_true rfl) g q1 q2 rfl rfl rfl (b_Row_init (by omega) h) (fun M1 h => ?_)
  obtain ⟨g, h⟩ := h
  have h := h _ rfl
  refine r_put2 (kd1 rfl) (by decide) rfl g rfl ?_
  refine r_aload_n (kd1 rfl) rfl rfl ?_
  obtain ⟨g1, g2, h⟩ := h
  have h := h _ rfl
  refine r_new (kd1 rfl) (by decide) (n := 1) rfl g1 g2 rfl ?_
  refine r_dup (kd1 rfl) rfl rfl ?_
  refine r_bipush (kd1 rfl) (y := 64) (by decide) rfl ?_
  obtain ⟨g, h⟩ := h
  obtain ⟨mc, ms, q1, q2, h⟩ := h
  refine r_callIV (d' := d - 1) (by omega) (kd1 rfl) (by decide) rfl rfl rfl rfl (Nat.le_of_ble_eq_true rfl) rfl L17 (Nat.le_of_ble_eq_true rfl) (Nat.le_of_ble_eq_true rfl) g q1 q2 rfl rfl rfl (b_Row_init (by omega) h) (fun M1 h => ?_)
  obtain ⟨g, h⟩ := h
  have h := h _ rfl
  refine r_put2 (kd1 rfl) (by decide) rfl g rfl ?_
  refine r_aload_n (kd1 rfl) rfl rfl ?_
  obtain ⟨g1, g2, h⟩ := h
  have h := h _ rfl
  refine r_new (kd1 rfl) (by decide) (n := 1) rfl g1 g2 rfl ?_
  refine r_dup (kd1 rfl) rfl rfl ?_
  refine r_bipush (kd1 rfl) (y := 64) (by decide) rfl ?_
  obtain ⟨g, h⟩ := h
  obtain ⟨mc, ms, q1, q2, h⟩ := h
  refine r_callIV (d' := d - 1) (by omega) (kd1 rfl) (by decide) rfl rfl rfl rfl (Nat.le_of_ble_eq_true rfl) rfl L17 (Nat.le_of_ble_eq_true rfl) (Nat.le_of_ble_eq_true rfl) g q1 q2 rfl rfl rfl (b_Row_init (by omega) h) (fun M1 h => ?_)
  obtain ⟨g, h⟩ := h
  have h := h _ rfl
  refine r_put2 (kd1 rfl) (by decide) rfl g rfl ?_
  refine r_aload_n (kd1 rfl) rfl rfl ?_
  obtain ⟨g1, g2, h⟩ := h
  have h := h _ rfl
  refine r_new (kd1 rfl) (by decide) (n := 1) rfl g1 g2 rfl ?_
  refine r_dup (kd1 rfl) rfl rfl ?_
  refine r_bipush (kd1 rfl) (y := 64) (by decide) rfl ?_
  obtain ⟨g, h⟩ := h
  obtain ⟨mc, ms, q1, q2, h⟩ := h
  refine r_callIV (d' := d - 1) (by omega) (kd1 rfl) (by decide) rfl rfl rfl rfl (Nat.le_of_ble_eq_true rfl) rfl L17 (Nat.le_of_ble_eq_true rfl) (Nat.le_of_ble_eq_true rfl) g q1 q2 rfl rfl rfl (b_Row_init (by omega) h) (fun M1 h => ?_)
  obtain ⟨g, h⟩ := h
  have h := h _ rfl
  refine r_put2 (kd1 rfl) (by decide) rfl g rfl ?_
  refine r_aload_n (kd1 rfl) rfl rfl ?_
  obtain ⟨g1, g2, h⟩ := h
  have h := h _ rfl
  refine r_new (kd1 rfl) (by decide) (n := 1) rfl g1 g2 rfl ?_
  refine r_dup (kd1 rfl) rfl rfl ?_
  refine r_bipush (kd1 rfl) (y := 64) (by decide) rfl ?_
  obtain ⟨g, h⟩ := h
  obtain ⟨mc, ms, q1, q2, h⟩ := h
  refine r_callIV (d' := d - 1) (by omega) (kd1 rfl) (by decide) rfl rfl rfl rfl (Nat.le_of_ble_eq_true rfl) rfl L17 (Nat.le_of_ble_eq_true rfl) (Nat.le_of_ble_eq_true rfl) g q1 q2 rfl rfl rfl (b_Row_init (by omega) h) (fun M1 h => ?_)
  obtain ⟨g, h⟩ := h
  have h := h _ rfl
  refine r_put2 (kd1 rfl) (by decide) rfl g rfl ?_
  refine r_aload_n (kd1 rfl) rfl rfl ?_
  obtain ⟨g1, g2, h⟩ := h
  have h := h _ rfl
  refine r_new (kd1 rfl) (by decide) (n := 1) rfl g1 g2 rfl ?_
  refine r_dup (kd1 rfl) rfl rfl ?_
  refine r_sipush (kd1 rfl) (y := 1024) (by decide) rfl ?_
  obtain ⟨g, h⟩ := h
  obtain ⟨mc, ms, q1, q2, h⟩ := h
  refine r_callIV (d' := d - 1) (by omega) (kd1 rfl) (by decide) rfl rfl rfl rfl (Nat.le_of_ble_eq_true rfl) rfl L17 (Nat.le_of_ble_eq_true rfl) (Nat.le_of_ble_eq_true rfl) g q1 q2 rfl rfl rfl (b_Row_init (by omega) h) (fun M1 h => ?_)
  obtain ⟨g, h⟩ := h
  have h := h _ rfl
  refine r_put2 (kd1 rfl) (by decide) rfl g rfl ?_
  exact r_return (kd1 rfl) R1 h
/-- TierMill$Frames.fromLatest(I)I -/
theorem kd2 {pc : Nat} {q : eI} (h : e_d2.lookup pc = some q) : e_dec 2 pc = some q := h
theorem L2 : (e_m 2).2.2.1 = 2 := rfl
theorem R2 : (e_m 2).2.2.2.1 = (some .int) := rfl
def w_Frames_fromLatest_24 (s0 : Int32) (M : eM) (Q : Int32 → eM → Prop) : Prop := Q s0 M
theorem b_Frames_fromLatest_24 {d : Nat} {s0 : Int32} {M : eM} {Q : Int32 → eM → Prop} (hd : 0 ≤ d) (h : w_Frames_fromLatest_24 s0 M Q ) : e_E 2 d 0 0 24 [] [.int s0] M (e_QI Q) := by
  unfold w_Frames_fromLatest_24 at h
  exact r_ireturn (kd2 rfl) R2 h
def w_Frames_fromLatest_12 (M : eM) (Q : Int32 → eM → Prop) : Prop := w_Frames_fromLatest_24 (-1) M Q
theorem b_Frames_fromLatest_12 {d : Nat} {M : eM} {Q : Int32 → eM → Prop} (hd : 0 ≤ d) (h : w_Frames_fromLatest_12 M Q ) : e_E 2 d 0 0 12 [] [] M (e_QI Q) := by
  unfold w_Frames_fromLatest_12 at h
  refine r_iconst (kd2 rfl) (y := (-1)) (by decide) rfl ?_
  refine r_goto (kd2 rfl) ?_
  exact (b_Frames_fromLatest_24 hd h).less e_sn
def w_Frames_fromLatest (l0 : Nat) (l1 : Int32) (M : eM) (Q : Int32 → eM → Prop) : Prop := (l1 < 0 → w_Frames_fromLatest_12 M Q) ∧ (¬ l1 < 0 → e_ob M l0 1 ∧ (l1 < (gi M l0 0) → e_ob M l0 1 ∧ w_Frames_fromLatest_24 (((gi M l0 0) - 1) - l1) M Q) ∧ (¬ l1 < (gi M l0 0) → w_Frames_fromLatest_12 M Q))
theorem b_Frames_fromLatest {d : Nat} {l0 : Nat} {l1 : Int32} {M : eM} {Q : Int32 → eM → Prop} (hd : 0 ≤ d) (h : w_Frames_fromLatest l0 l1 M Q) : e_CI 2 d 0 0 [.ref l0, .int l1] M Q := by
  unfold w_Frames_fromLatest at h
  show e_E 2 d 0 0 0 [(0, .ref l0), (1, .int l1)] [] M (e_QI Q)
  refine r_iload_n (kd2 rfl) rfl rfl ?_
  refine r_if_lt (kd2 rfl) rfl (fun c => ?_) (fun c => ?_)
  · have h := h.1 c
    exact (b_Frames_fromLatest_12 hd h).less e_sn
  · have h := h.2 c
    refine r_iload_n (kd2 rfl) rfl rfl ?_
    refine r_aload_n (kd2 rfl) rfl rfl ?_
    obtain ⟨g, h⟩ := h
    refine r_get0 (kd2 rfl) (by decide) rfl g rfl ?_
    refine r_icmp_lt (kd2 rfl) rfl (fun c => ?_) (fun c => ?_)
    · have h := h.1 c
      refine r_aload_n (kd2 rfl) rfl rfl ?_
      obtain ⟨g, h⟩ := h
      refine r_get0 (kd2 rfl) (by decide) rfl g rfl ?_
      refine r_iconst (kd2 rfl) (y := 1) (by decide) rfl ?_
      refine r_isub (kd2 rfl) rfl ?_
      refine r_iload_n (kd2 rfl) rfl rfl ?_
      refine r_isub (kd2 rfl) rfl ?_
      exact (b_Frames_fromLatest_24 hd h).less e_sn
    · have h := h.2 c
      exact (b_Frames_fromLatest_12 hd h).less e_sn
/-- TierMill$Heap.<init>()V -/
theorem kd3 {pc : Nat} {q : eI} (h : e_d3.lookup pc = some q) : e_dec 3 pc = some q := h
theorem L3 : (e_m 3).2.2.1 = 1 := rfl
theorem R3 : (e_m 3).2.2.2.1 = none := rfl
def w_Heap_init (kc ks : Nat) (l0 : Nat) (M : eM) (Q : eM → Prop) : Prop := e_c0 ≤ l0 ∧ 1 ≤ kc ∧ 1 ≤ ks ∧ ∀ M1 : eM, M1 = e_new M 7 0 → e_c0 ≤ M.1 ∧ ∃ kc3 ks4 : Nat, kc3 ≤ (kc - 1) ∧ ks4 ≤ (ks - 1) ∧ w_Row_init kc3 ks4 M.1 4001 M1 (fun (M2 : eM) => e_ob M2 l0 2 ∧ ∀ M5 : eM, M5 = e_sr M2 l0 3 M.1 → 1 ≤ (kc - 1 - kc3) ∧ 1 ≤ (ks - 1 - ks4) ∧ ∀ M6 : eM, M6 = e_new M5 7 0 → e_c0 ≤ M5.1 ∧ ∃ kc8 ks9 : Nat, kc8 ≤ (kc - 1 - kc3 - 1) ∧ ks9 ≤ (ks - 1 - ks4 - 1) ∧ w_Row_init kc8 ks9 M5.1 4001 M6 (fun (M7 : eM) => e_ob M7 l0 2 ∧ ∀ M10 : eM, M10 = e_sr M7 l0 4 M5.1 → Q M10))
theorem b_Heap_init {d : Nat} {kc ks : Nat} {l0 : Nat} {M : eM} {Q : eM → Prop} (hd : 1 ≤ d) (h : w_Heap_init kc ks l0 M Q) : e_CV 3 d kc ks [.ref l0] M Q := by
  unfold w_Heap_init at h
  show e_E 3 d kc ks 0 [(0, .ref l0)] [] M (e_QV Q)
  refine r_aload_n (kd3 rfl) rfl rfl ?_
  obtain ⟨g, h⟩ := h
  refine r_objInit (kd3 rfl) g (Nat.le_of_ble_eq_true rfl) rfl ?_
  refine r_aload_n (kd3 rfl) rfl rfl ?_
  obtain ⟨g1, g2, h⟩ := h
  have h := h _ rfl
  refine r_new (kd3 rfl) (by decide) (n := 1) rfl g1 g2 rfl ?_
  refine r_dup (kd3 rfl) rfl rfl ?_
  refine r_sipush (kd3 rfl) (y := 4001) (by decide) rfl ?_
  obtain ⟨g, h⟩ := h
  obtain ⟨mc, ms, q1, q2, h⟩ := h
  refine r_callIV (d' := d - 1) (by omega) (kd3 rfl) (by decide) rfl rfl rfl rfl (Nat.le_of_ble_eq_true rfl) rfl L17 (Nat.le_of_ble_eq_true rfl) (Nat.le_of_ble_eq_true rfl) g q1 q2 rfl rfl rfl (b_Row_init (by omega) h) (fun M1 h => ?_)
  obtain ⟨g, h⟩ := h
  have h := h _ rfl
  refine r_put2 (kd3 rfl) (by decide) rfl g rfl ?_
  refine r_aload_n (kd3 rfl) rfl rfl ?_
  obtain ⟨g1, g2, h⟩ := h
  have h := h _ rfl
  refine r_new (kd3 rfl) (by decide) (n := 1) rfl g1 g2 rfl ?_
  refine r_dup (kd3 rfl) rfl rfl ?_
  refine r_sipush (kd3 rfl) (y := 4001) (by decide) rfl ?_
  obtain ⟨g, h⟩ := h
  obtain ⟨mc, ms, q1, q2, h⟩ := h
  refine r_callIV (d' := d - 1) (by omega) (kd3 rfl) (by decide) rfl rfl rfl rfl (Nat.le_of_ble_eq_true rfl) rfl L17 (Nat.le_of_ble_eq_true rfl) (Nat.le_of_ble_eq_true rfl) g q1 q2 rfl rfl rfl (b_Row_init (by omega) h) (fun M1 h => ?_)
  obtain ⟨g, h⟩ := h
  have h := h _ rfl
  refine r_put2 (kd3 rfl) (by decide) rfl g rfl ?_
  exact r_return (kd3 rfl) R3 h
/-- TierMill$Tiers.<init>(LTierMill$Program;)V -/
theorem kd21 {pc : Nat} {q : eI} (h : e_d21.lookup pc = some q) : e_dec 21 pc = some q := h
theorem L21 : (e_m 21).2.2.1 = 2 := rfl
theorem R21 : (e_m 21).2.2.2.1 = none := rfl
set_option maxRecDepth 100000 in
def w_Tiers_init (kc ks : Nat) (l0 : Nat) (l1 : Nat) (M : eM) (Q : eM → Prop) : Prop := e_c0 ≤ l0 ∧ e_ob M l0 9 ∧ ∀ M1 : eM, M1 = e_sr M l0 12 l1 → e_ob M1 l0 9 ∧ ∀ M2 : eM, M2 = e_si M1 l0 0 3 → e_ob M2 l0 9 ∧ ∀ M3 : eM, M3 = e_si M2 l0 1 2 → e_ob M3 l0 9 ∧ ∀ M4 : eM, M4 = e_si M3 l0 2 2 → e_ob M4 l0 9 ∧ ∀ M5 : eM, M5 = e_si M4 l0 3 40 → 1 ≤ kc ∧ 1 ≤ ks ∧ ∀ M6 : eM, M6 = e_new M5 7 0 → e_c0 ≤ M5.1 ∧ ∃ kc8 ks9 : Nat, kc8 ≤ (kc - 1) ∧ ks9 ≤ (ks - 1) ∧ w_Row_init kc8 ks9 M5.1 16 M6 (fun (M7 : eM) => e_ob M7 l0 9 ∧ ∀ M10 : eM, M10 = e_sr M7 l0 4 M5.1 → 1 ≤ (kc - 1 - kc8) ∧ 1 ≤ (ks - 1 - ks9) ∧ ∀ M11 : eM, M11 = e_new M10 7 0 → e_c0 ≤ M10.1 ∧ ∃ kc13 ks14 : Nat, kc13 ≤ (kc - 1 - kc8 - 1) ∧ ks14 ≤ (ks - 1 - ks9 - 1) ∧ w_Row_init kc13 ks14 M10.1 6000 M11 (fun (M12 : eM) => e_ob M12 l0 9 ∧ ∀ M15 : eM, M15 = e_sr M12 l0 5 M10.1 → ¬ (30 : Int32) < 0 ∧ (30 : Int32).toNatClampNeg ≤ 400000 ∧ 1 ≤ (kc - 1 - kc8 - 1 - kc13) ∧ (30 : Int32).toNatClampNeg ≤ (ks - 1 - ks9 - 1 - ks14) ∧ ∀ M16 : eM, M16 = e_new M15 23 (30 : Int32).toNatClampNeg → e_ob M16 l0 9 ∧ ∀ M17 : eM, M17 = e_sr M16 l0 6 M15.1 → 1 ≤ (kc - 1 - kc8 - 1 - kc13 - 1) ∧ 1 ≤ (ks - 1 - ks9 - 1 - ks14 - (30 : Int32).toNatClampNeg) ∧ ∀ M18 : eM, M18 = e_new M17 7 0 → e_c0 ≤ M17.1 ∧ ∃ kc20 ks21 : Nat, kc20 ≤ (kc - 1 - kc8 - 1 - kc13 - 1 - 1) ∧ ks21 ≤ (ks - 1 - ks9 - 1 - ks14 - (30 : Int32).toNatClampNeg - 1) ∧ w_Row_init kc20 ks21 M17.1 16 M18 (fun (M19 : eM) => e_ob M19 l0 9 ∧ ∀ M22 : eM, M22 = e_sr M19 l0 8 M17.1 → 1 ≤ (kc - 1 - kc8 - 1 - kc13 - 1 - 1 - kc20) ∧ 1 ≤ (ks - 1 - ks9 - 1 - ks14 - (30 : Int32).toNatClampNeg - 1 - ks21) ∧ ∀ M23 : eM, M23 = e_new M22 7 0 → e_c0 ≤ M22.1 ∧ ∃ kc25 ks26 : Nat, kc25 ≤ (kc - 1 - kc8 - 1 - kc13 - 1 - 1 - kc20 - 1) ∧ ks26 ≤ (ks - 1 - ks9 - 1 - ks14 - (30 : Int32).toNatClampNeg - 1 - ks21 - 1) ∧ w_Row_init kc25 ks26 M22.1 1800 M23 (fun (M24 : eM) => e_ob M24 l0 9 ∧ ∀ M27 : eM, M27 = e_sr M24 l0 9 M22.1 → Q M27))))
set_option maxRecDepth 100000 in
theorem b_Tiers_init {d : Nat} {kc ks : Nat} {l0 : Nat} {l1 : Nat} {M : eM} {Q : eM → Prop} (hd : 1 ≤ d) (h : w_Tiers_init kc ks l0 l1 M Q) : e_CV 21 d kc ks [.ref l0, .ref l1] M Q := by
  unfold w_Tiers_init at h
  show e_E 21 d kc ks 0 [(0, .ref l0), (1, .ref l1)] [] M (e_QV Q)
  refine r_aload_n (kd21 rfl) rfl rfl ?_
  obtain ⟨g, h⟩ := h
  refine r_objInit (kd21 rfl) g (Nat.le_of_ble_eq_true rfl) rfl ?_
  refine r_aload_n (kd21 rfl) rfl rfl ?_
  refine r_aload_n (kd21 rfl) rfl rfl ?_
  obtain ⟨g, h⟩ := h
  have h := h _ rfl
  refine r_put2 (kd21 rfl) (by decide) rfl g rfl ?_
  refine r_aload_n (kd21 rfl) rfl rfl ?_
  refine r_iconst (kd21 rfl) (y := 3) (by decide) rfl ?_
  obtain ⟨g, h⟩ := h
  have h := h _ rfl
  refine r_put0 (kd21 rfl) (by decide) rfl g rfl ?_
  refine r_aload_n (kd21 rfl) rfl rfl ?_
  refine r_iconst (kd21 rfl) (y := 2) (by decide) rfl ?_
  obtain ⟨g, h⟩ := h
  have h := h _ rfl
  refine r_put0 (kd21 rfl) (by decide) rfl g rfl ?_
  refine r_aload_n (kd21 rfl) rfl rfl ?_
  refine r_iconst (kd21 rfl) (y := 2) (by decide) rfl ?_
  obtain ⟨g, h⟩ := h
  have h := h _ rfl
  refine r_put0 (kd21 rfl) (by decide) rfl g rfl ?_
  refine r_aload_n (kd21 rfl) rfl rfl ?_
  refine r_bipush (kd21 rfl) (y := 40) (by decide) rfl ?_
  obtain ⟨g, h⟩ := h
  have h := h _ rfl
  refine r_put0 (kd21 rfl) (by decide) rfl g rfl ?_
  refine r_aload_n (kd21 rfl) rfl rfl ?_
  obtain ⟨g1, g2, h⟩ := h
  have h := h _ rfl
  refine r_new (kd21 rfl) (by decide) (n := 1) rfl g1 g2 rfl ?_
  refine r_dup (kd21 rfl) rfl rfl ?_
  refine r_bipush (kd21 rfl) (y := 16) (by decide) rfl ?_
  obtain ⟨g, h⟩ := h
  obtain ⟨mc, ms, q1, q2, h⟩ := h
  refine r_callIV (d' := d - 1) (by omega) (kd21 rfl) (by decide) rfl rfl rfl rfl (Nat.le_of_ble_eq_true rfl) rfl L17 (Nat.le_of_ble_eq_true rfl) (Nat.le_of_ble_eq_true rfl) g q1 q2 rfl rfl rfl (b_Row_init (by omega) h) (fun M1 h => ?_)
  obtain ⟨g, h⟩ := h
  have h := h _ rfl
  refine r_put2 (kd21 rfl) (by decide) rfl g rfl ?_
  refine r_aload_n (kd21 rfl) rfl rfl ?_
  obtain ⟨g1, g2, h⟩ := h
  have h := h _ rfl
  refine r_new (kd21 rfl) (by decide) (n := 1) rfl g1 g2 rfl ?_
  refine r_dup (kd21 rfl) rfl rfl ?_
  refine r_sipush (kd21 rfl) (y := 6000) (by decide) rfl ?_
  obtain ⟨g, h⟩ := h
  obtain ⟨mc, ms, q1, q2, h⟩ := h
  refine r_callIV (d' := d - 1) (by omega) (kd21 rfl) (by decide) rfl rfl rfl rfl (Nat.le_of_ble_eq_true rfl) rfl L17 (Nat.le_of_ble_eq_true rfl) (Nat.le_of_ble_eq_true rfl) g q1 q2 rfl rfl rfl (b_Row_init (by omega) h) (fun M1 h => ?_)
  obtain ⟨g, h⟩ := h
  have h := h _ rfl
  refine r_put2 (kd21 rfl) (by decide) rfl g rfl ?_
  refine r_aload_n (kd21 rfl) rfl rfl ?_
  refine r_bipush (kd21 rfl) (y := 30) (by decide) rfl ?_
  obtain ⟨g0, g3, g1, g2, h⟩ := h
  have h := h _ rfl
  refine r_anewarray (kd21 rfl) (by decide) g0 g3 g1 g2 rfl ?_
  obtain ⟨g, h⟩ := h
  have h := h _ rfl
  refine r_put2 (kd21 rfl) (by decide) rfl g rfl ?_
  refine r_aload_n (kd21 rfl) rfl rfl ?_
  obtain ⟨g1, g2, h⟩ := h
  have h := h _ rfl
  refine r_new (kd21 rfl) (by decide) (n := 1) rfl g1 g2 rfl ?_
  refine r_dup (kd21 rfl) rfl rfl ?_
  refine r_bipush (kd21 rfl) (y := 16) (by decide) rfl ?_
  obtain ⟨g, h⟩ := h
  obtain ⟨mc, ms, q1, q2, h⟩ := h
  refine r_callIV (d' := d - 1) (by omega) (kd21 rfl) (by decide) rfl rfl rfl rfl (Nat.le_of_ble_eq_true rfl) rfl L17 (Nat.le_of_ble_eq_true rfl) (Nat.le_of_ble_eq_true rfl) g q1 q2 rfl rfl rfl (b_Row_init (by omega) h) (fun M1 h => ?_)
  obtain ⟨g, h⟩ := h
  have h := h _ rfl
  refine r_put2 (kd21 rfl) (by decide) rfl g rfl ?_
  refine r_aload_n (kd21 rfl) rfl rfl ?_
  obtain ⟨g1, g2, h⟩ := h
  have h := h _ rfl
  refine r_new (kd21 rfl) (by decide) (n := 1) rfl g1 g2 rfl ?_
  refine r_dup (kd21 rfl) rfl rfl ?_
  refine r_sipush (kd21 rfl) (y := 1800) (by decide) rfl ?_
  obtain ⟨g, h⟩ := h
  obtain ⟨mc, ms, q1, q2, h⟩ := h
  refine r_callIV (d' := d - 1) (by omega) (kd21 rfl) (by decide) rfl rfl rfl rfl (Nat.le_of_ble_eq_true rfl) rfl L17 (Nat.le_of_ble_eq_true rfl) (Nat.le_of_ble_eq_true rfl) g q1 q2 rfl rfl rfl (b_Row_init (by omega) h) (fun M1 h => ?_)
  obtain ⟨g, h⟩ := h
  have h := h _ rfl
  refine r_put2 (kd21 rfl) (by decide) rfl g rfl ?_
  exact r_return (kd21 rfl) R21 h
/-- TierMill$Row.set(II)V -/
theorem kd18 {pc : Nat} {q : eI} (h : e_d18.lookup pc = some q) : e_dec 18 pc = some q := h
theorem L18 : (e_m 18).2.2.1 = 3 := rfl
theorem R18 : (e_m 18).2.2.2.1 = none := rfl
def w_Row_set_20 (M : eM) (Q : eM → Prop) : Prop := Q M
theorem b_Row_set_20 {d : Nat} {M : eM} {Q : eM → Prop} (hd : 0 ≤ d) (h : w_Row_set_20 M Q ) : e_E 18 d 0 0 20 [] [] M (e_QV Q) := by
  unfold w_Row_set_20 at h
  exact r_return (kd18 rfl) R18 h
def w_Row_set (l0 : Nat) (l1 : Int32) (l2 : Int32) (M : eM) (Q : eM → Prop) : Prop := (l1 < 0 → w_Row_set_20 M Q) ∧ (¬ l1 < 0 → e_ob M l0 7 ∧ ((0 < (gr M l0 0) ∧ (gr M l0 0) < M.1 ∧ gt M (gr M l0 0) = 20) ∨ (e_c0 ≤ (gr M l0 0) ∧ (gr M l0 0) < M.1 ∧ 20 ≤ gt M (gr M l0 0) ∧ gt M (gr M l0 0) ≤ 24)) ∧ ((Int32.ofNat (gn M (gr M l0 0))) ≤ l1 → w_Row_set_20 M Q) ∧ (¬ (Int32.ofNat (gn M (gr M l0 0))) ≤ l1 → e_ob M l0 7 ∧ e_ar M (gr M l0 0) 20 l1 ∧ ∀ M1 : eM, M1 = e_si M (gr M l0 0) l1.toNatClampNeg l2 → w_Row_set_20 M1 Q))
theorem b_Row_set {d : Nat} {l0 : Nat} {l1 : Int32} {l2 : Int32} {M : eM} {Q : eM → Prop} (hd : 0 ≤ d) (h : w_Row_set l0 l1 l2 M Q) : e_CV 18 d 0 0 [.ref l0, .int l1, .int l2] M Q := by
  unfold w_Row_set at h
  show e_E 18 d 0 0 0 [(0, .ref l0), (1, .int l1), (2, .int l2)] [] M (e_QV Q)
  refine r_iload_n (kd18 rfl) rfl rfl ?_
  refine r_if_lt (kd18 rfl) rfl (fun c => ?_) (fun c => ?_)
  · have h := h.1 c
    exact (b_Row_set_20 hd h).less e_sn
  · have h := h.2 c
    refine r_iload_n (kd18 rfl) rfl rfl ?_
    refine r_aload_n (kd18 rfl) rfl rfl ?_
    obtain ⟨g, h⟩ := h
    refine r_get2 (kd18 rfl) (by decide) rfl g rfl ?_
    obtain ⟨g, h⟩ := h
    refine r_arraylength (kd18 rfl) g rfl ?_
    refine r_icmp_ge (kd18 rfl) rfl (fun c => ?_) (fun c => ?_)
    · have h := h.1 c
      exact (b_Row_set_20 hd h).less e_sn
    · have h := h.2 c
      refine r_aload_n (kd18 rfl) rfl rfl ?_
      obtain ⟨g, h⟩ := h
      refine r_get2 (kd18 rfl) (by decide) rfl g rfl ?_
      refine r_iload_n (kd18 rfl) rfl rfl ?_
      refine r_iload_n (kd18 rfl) rfl rfl ?_
      obtain ⟨g, h⟩ := h
      have h := h _ rfl
      refine r_iastore (kd18 rfl) g rfl ?_
      exact (b_Row_set_20 hd h).less e_sn
/-- TierMill$Row.fill(III)V -/
theorem kd19 {pc : Nat} {q : eI} (h : e_d19.lookup pc = some q) : e_dec 19 pc = some q := h
theorem L19 : (e_m 19).2.2.1 = 5 := rfl
theorem R19 : (e_m 19).2.2.2.1 = none := rfl
def w_Row_fill_3 : Nat → Nat → Int32 → Int32 → Int32 → eM → (eM → Prop) → Prop
  | 0, _, _, _, _, _, _ => False
  | n + 1, l0, l2, l3, l4, M, Q => (l2 ≤ l4 → Q M) ∧ (¬ l2 ≤ l4 → e_ob M l0 7 ∧ w_Row_set l0 l4 l3 M (fun (M2 : eM) => (fun l0 l2 l3 l4 M => w_Row_fill_3 n l0 l2 l3 l4 M Q ) l0 l2 l3 (l4 + 1) M2))
theorem b_Row_fill_3 {d : Nat} {Q : eM → Prop} (hd : 1 ≤ d) (n : Nat) : ∀ (l0 : Nat) (l2 : Int32) (l3 : Int32) (l4 : Int32) (M : eM), w_Row_fill_3 n l0 l2 l3 l4 M Q → e_E 19 d 0 0 3 [(0, .ref l0), (2, .int l2), (3, .int l3), (4, .int l4)] [] M (e_QV Q) := by
  induction n with
  | zero => intro l0 l2 l3 l4 M h; exact False.elim h
  | succ n ih =>
    intro l0 l2 l3 l4 M h
    have hk3 := ih
    refine r_iload (kd19 rfl) rfl rfl ?_
    refine r_iload_n (kd19 rfl) rfl rfl ?_
    refine r_icmp_ge (kd19 rfl) rfl (fun c => ?_) (fun c => ?_)
    · have h := h.1 c
      exact r_return (kd19 rfl) R19 h
    · have h := h.2 c
      refine r_aload_n (kd19 rfl) rfl rfl ?_
      refine r_iload (kd19 rfl) rfl rfl ?_
      refine r_iload_n (kd19 rfl) rfl rfl ?_
      obtain ⟨g, h⟩ := h
      refine r_callVV (d' := d - 1) (by omega) (kd19 rfl) (by decide) rfl rfl rfl rfl (Nat.le_of_ble_eq_true rfl) rfl L18 (Nat.le_of_ble_eq_true rfl) (Nat.le_of_ble_eq_true rfl) g (Nat.zero_le _) (Nat.zero_le _) rfl rfl rfl (b_Row_set (by omega) h) (fun M1 h => ?_)
      refine r_iinc (kd19 rfl) rfl (y := 1) (by decide) L19 (by decide) rfl rfl ?_
      refine r_goto (kd19 rfl) ?_
      exact (hk3 _ _ _ _ _ h).less (e_sc (List.mem_of_getElem? (i := 1) rfl) (e_sc (List.mem_of_getElem? (i := 2) rfl) (e_sc (List.mem_of_getElem? (i := 3) rfl) (e_sc (List.mem_of_getElem? (i := 0) rfl) e_sn))))
def w_Row_fill (l0 : Nat) (l1 : Int32) (l2 : Int32) (l3 : Int32) (M : eM) (Q : eM → Prop) : Prop := ∃ n1 : Nat, w_Row_fill_3 n1 l0 l2 l3 l1 M Q
theorem b_Row_fill {d : Nat} {l0 : Nat} {l1 : Int32} {l2 : Int32} {l3 : Int32} {M : eM} {Q : eM → Prop} (hd : 1 ≤ d) (h : w_Row_fill l0 l1 l2 l3 M Q) : e_CV 19 d 0 0 [.ref l0, .int l1, .int l2, .int l3] M Q := by
  unfold w_Row_fill at h
  show e_E 19 d 0 0 0 [(0, .ref l0), (1, .int l1), (2, .int l2), (3, .int l3)] [] M (e_QV Q)
  refine r_iload_n (kd19 rfl) rfl rfl ?_
  refine r_istore (kd19 rfl) L19 (by decide) rfl rfl ?_
  obtain ⟨n, h⟩ := h
  exact (b_Row_fill_3 hd n _ _ _ _ _ h).less (e_sc (List.mem_of_getElem? (i := 1) rfl) (e_sc (List.mem_of_getElem? (i := 3) rfl) (e_sc (List.mem_of_getElem? (i := 4) rfl) (e_sc (List.mem_of_getElem? (i := 0) rfl) e_sn))))
/-- TierMill$Tiers.clear()V -/
theorem kd22 {pc : Nat} {q : eI} (h : e_d22.lookup pc = some q) : e_dec 22 pc = some q := h
theorem L22 : (e_m 22).2.2.1 = 1 := rfl
theorem R22 : (e_m 22).2.2.2.1 = none := rfl
def w_Tiers_clear (l0 : Nat) (M : eM) (Q : eM → Prop) : Prop := e_ob M l0 9 ∧ e_ob M (gr M l0 4) 7 ∧ w_Row_fill (gr M l0 4) 0 16 0 M (fun (M1 : eM) => e_ob M1 l0 9 ∧ e_ob M1 (gr M1 l0 8) 7 ∧ w_Row_fill (gr M1 l0 8) 0 16 (-1) M1 (fun (M2 : eM) => Q M2))
theorem b_Tiers_clear {d : Nat} {l0 : Nat} {M : eM} {Q : eM → Prop} (hd : 2 ≤ d) (h : w_Tiers_clear l0 M Q) : e_CV 22 d 0 0 [.ref l0] M Q := by
  unfold w_Tiers_clear at h
  show e_E 22 d 0 0 0 [(0, .ref l0)] [] M (e_QV Q)
  refine r_aload_n (kd22 rfl) rfl rfl ?_
  obtain ⟨g, h⟩ := h
  refine r_get2 (kd22 rfl) (by decide) rfl g rfl ?_
  refine r_iconst (kd22 rfl) (y := 0) (by decide) rfl ?_
  refine r_bipush (kd22 rfl) (y := 16) (by decide) rfl ?_
  refine r_iconst (kd22 rfl) (y := 0) (by decide) rfl ?_
  obtain ⟨g, h⟩ := h
  refine r_callVV (d' := d - 1) (by omega) (kd22 rfl) (by decide) rfl rfl rfl rfl (Nat.le_of_ble_eq_true rfl) rfl L19 (Nat.le_of_ble_eq_true rfl) (Nat.le_of_ble_eq_true rfl) g (Nat.zero_le _) (Nat.zero_le _) rfl rfl rfl (b_Row_fill (by omega) h) (fun M1 h => ?_)
  refine r_aload_n (kd22 rfl) rfl rfl ?_
  obtain ⟨g, h⟩ := h
  refine r_get2 (kd22 rfl) (by decide) rfl g rfl ?_
  refine r_iconst (kd22 rfl) (y := 0) (by decide) rfl ?_
  refine r_bipush (kd22 rfl) (y := 16) (by decide) rfl ?_
  refine r_iconst (kd22 rfl) (y := (-1)) (by decide) rfl ?_
  obtain ⟨g, h⟩ := h
  refine r_callVV (d' := d - 1) (by omega) (kd22 rfl) (by decide) rfl rfl rfl rfl (Nat.le_of_ble_eq_true rfl) rfl L19 (Nat.le_of_ble_eq_true rfl) (Nat.le_of_ble_eq_true rfl) g (Nat.zero_le _) (Nat.zero_le _) rfl rfl rfl (b_Row_fill (by omega) h) (fun M1 h => ?_)
  exact r_return (kd22 rfl) R22 h
/-- TierMill$Machine.<init>(LTierMill$Program;)V -/
theorem kd4 {pc : Nat} {q : eI} (h : e_d4.lookup pc = some q) : e_dec 4 pc = some q := h
theorem L4 : (e_m 4).2.2.1 = 2 := rfl
theorem R4 : (e_m 4).2.2.2.1 = none := rfl
set_option maxRecDepth 100000 in
def w_Machine_init (kc ks : Nat) (l0 : Nat) (l1 : Nat) (M : eM) (Q : eM → Prop) : Prop := e_c0 ≤ l0 ∧ e_ob M l0 3 ∧ ∀ M1 : eM, M1 = e_sr M l0 15 l1 → 1 ≤ kc ∧ 8 ≤ ks ∧ ∀ M2 : eM, M2 = e_new M1 1 0 → e_c0 ≤ M1.1 ∧ ∃ kc4 ks5 : Nat, kc4 ≤ (kc - 1) ∧ ks5 ≤ (ks - 8) ∧ w_Frames_init kc4 ks5 M1.1 M2 (fun (M3 : eM) => e_ob M3 l0 3 ∧ ∀ M6 : eM, M6 = e_sr M3 l0 0 M1.1 → 1 ≤ (kc - 1 - kc4) ∧ 5 ≤ (ks - 8 - ks5) ∧ ∀ M7 : eM, M7 = e_new M6 2 0 → e_c0 ≤ M6.1 ∧ ∃ kc9 ks10 : Nat, kc9 ≤ (kc - 1 - kc4 - 1) ∧ ks10 ≤ (ks - 8 - ks5 - 5) ∧ w_Heap_init kc9 ks10 M6.1 M7 (fun (M8 : eM) => e_ob M8 l0 3 ∧ ∀ M11 : eM, M11 = e_sr M8 l0 1 M6.1 → 1 ≤ (kc - 1 - kc4 - 1 - kc9) ∧ 13 ≤ (ks - 8 - ks5 - 5 - ks10) ∧ ∀ M12 : eM, M12 = e_new M11 9 0 → e_c0 ≤ M11.1 ∧ ∃ kc14 ks15 : Nat, kc14 ≤ (kc - 1 - kc4 - 1 - kc9 - 1) ∧ ks15 ≤ (ks - 8 - ks5 - 5 - ks10 - 13) ∧ w_Tiers_init kc14 ks15 M11.1 l1 M12 (fun (M13 : eM) => e_ob M13 l0 3 ∧ ∀ M16 : eM, M16 = e_sr M13 l0 2 M11.1 → 1 ≤ (kc - 1 - kc4 - 1 - kc9 - 1 - kc14) ∧ 1 ≤ (ks - 8 - ks5 - 5 - ks10 - 13 - ks15) ∧ ∀ M17 : eM, M17 = e_new M16 7 0 → e_c0 ≤ M16.1 ∧ ∃ kc19 ks20 : Nat, kc19 ≤ (kc - 1 - kc4 - 1 - kc9 - 1 - kc14 - 1) ∧ ks20 ≤ (ks - 8 - ks5 - 5 - ks10 - 13 - ks15 - 1) ∧ w_Row_init kc19 ks20 M16.1 1500 M17 (fun (M18 : eM) => e_ob M18 l0 3 ∧ ∀ M21 : eM, M21 = e_sr M18 l0 3 M16.1 → 1 ≤ (kc - 1 - kc4 - 1 - kc9 - 1 - kc14 - 1 - kc19) ∧ 1 ≤ (ks - 8 - ks5 - 5 - ks10 - 13 - ks15 - 1 - ks20) ∧ ∀ M22 : eM, M22 = e_new M21 7 0 → e_c0 ≤ M21.1 ∧ ∃ kc24 ks25 : Nat, kc24 ≤ (kc - 1 - kc4 - 1 - kc9 - 1 - kc14 - 1 - kc19 - 1) ∧ ks25 ≤ (ks - 8 - ks5 - 5 - ks10 - 13 - ks15 - 1 - ks20 - 1) ∧ w_Row_init kc24 ks25 M21.1 500 M22 (fun (M23 : eM) => e_ob M23 l0 3 ∧ ∀ M26 : eM, M26 = e_sr M23 l0 5 M21.1 → 1 ≤ (kc - 1 - kc4 - 1 - kc9 - 1 - kc14 - 1 - kc19 - 1 - kc24) ∧ 1 ≤ (ks - 8 - ks5 - 5 - ks10 - 13 - ks15 - 1 - ks20 - 1 - ks25) ∧ ∀ M27 : eM, M27 = e_new M26 7 0 → e_c0 ≤ M26.1 ∧ ∃ kc29 ks30 : Nat, kc29 ≤ (kc - 1 - kc4 - 1 - kc9 - 1 - kc14 - 1 - kc19 - 1 - kc24 - 1) ∧ ks30 ≤ (ks - 8 - ks5 - 5 - ks10 - 13 - ks15 - 1 - ks20 - 1 - ks25 - 1) ∧ w_Row_init kc29 ks30 M26.1 100 M27 (fun (M28 : eM) => e_ob M28 l0 3 ∧ ∀ M31 : eM, M31 = e_sr M28 l0 13 M26.1 → e_ob M31 l0 3 ∧ e_ob M31 (gr M31 l0 2) 9 ∧ w_Tiers_clear (gr M31 l0 2) M31 (fun (M32 : eM) => Q M32)))))))
set_option maxRecDepth 100000 in
theorem b_Machine_init {d : Nat} {kc ks : Nat} {l0 : Nat} {l1 : Nat} {M : eM} {Q : eM → Prop} (hd : 3 ≤ d) (h : w_Machine_init kc ks l0 l1 M Q) : e_CV 4 d kc ks [.ref l0, .ref l1] M Q := by
  unfold w_Machine_init at h
  show e_E 4 d kc ks 0 [(0, .ref l0), (1, .ref l1)] [] M (e_QV Q)
  refine r_aload_n (kd4 rfl) rfl rfl ?_
  obtain ⟨g, h⟩ := h
  refine r_objInit (kd4 rfl) g (Nat.le_of_ble_eq_true rfl) rfl ?_
  refine r_aload_n (kd4 rfl) rfl rfl ?_
  refine r_aload_n (kd4 rfl) rfl rfl ?_
  obtain ⟨g, h⟩ := h
  have h := h _ rfl
  refine r_put2 (kd4 rfl) (by decide) rfl g rfl ?_
  refine r_aload_n (kd4 rfl) rfl rfl ?_
  obtain ⟨g1, g2, h⟩ := h
  have h := h _ rfl
  refine r_new (kd4 rfl) (by decide) (n := 8) rfl g1 g2 rfl ?_
  refine r_dup (kd4 rfl) rfl rfl ?_
  obtain ⟨g, h⟩ := h
  obtain ⟨mc, ms, q1, q2, h⟩ := h
  refine r_callIV (d' := d - 1) (by omega) (kd4 rfl) (by decide) rfl rfl rfl rfl (Nat.le_of_ble_eq_true rfl) rfl L1 (Nat.le_of_ble_eq_true rfl) (Nat.le_of_ble_eq_true rfl) g q1 q2 rfl rfl rfl (b_Frames_init (by omega) h) (fun M1 h => ?_)
  obtain ⟨g, h⟩ := h
  have h := h _ rfl
  refine r_put2 (kd4 rfl) (by decide) rfl g rfl ?_
  refine r_aload_n (kd4 rfl) rfl rfl ?_
  obtain ⟨g1, g2, h⟩ := h
  have h := h _ rfl
  refine r_new (kd4 rfl) (by decide) (n := 5) rfl g1 g2 rfl ?_
  refine r_dup (kd4 rfl) rfl rfl ?_
  obtain ⟨g, h⟩ := h
  obtain ⟨mc, ms, q1, q2, h⟩ := h
  refine r_callIV (d' := d - 1) (by omega) (kd4 rfl) (by decide) rfl rfl rfl rfl (Nat.le_of_ble_eq_true rfl) rfl L3 (Nat.le_of_ble_eq_true rfl) (Nat.le_of_ble_eq_true rfl) g q1 q2 rfl rfl rfl (b_Heap_init (by omega) h) (fun M1 h => ?_)
  obtain ⟨g, h⟩ := h
  have h := h _ rfl
  refine r_put2 (kd4 rfl) (by decide) rfl g rfl ?_
  refine r_aload_n (kd4 rfl) rfl rfl ?_
  obtain ⟨g1, g2, h⟩ := h
  have h := h _ rfl
  refine r_new (kd4 rfl) (by decide) (n := 13) rfl g1 g2 rfl ?_
  refine r_dup (kd4 rfl) rfl rfl ?_
  refine r_aload_n (kd4 rfl) rfl rfl ?_
  obtain ⟨g, h⟩ := h
  obtain ⟨mc, ms, q1, q2, h⟩ := h
  refine r_callIV (d' := d - 1) (by omega) (kd4 rfl) (by decide) rfl rfl rfl rfl (Nat.le_of_ble_eq_true rfl) rfl L21 (Nat.le_of_ble_eq_true rfl) (Nat.le_of_ble_eq_true rfl) g q1 q2 rfl rfl rfl (b_Tiers_init (by omega) h) (fun M1 h => ?_)
  obtain ⟨g, h⟩ := h
  have h := h _ rfl
  refine r_put2 (kd4 rfl) (by decide) rfl g rfl ?_
  refine r_aload_n (kd4 rfl) rfl rfl ?_
  obtain ⟨g1, g2, h⟩ := h
  have h := h _ rfl
  refine r_new (kd4 rfl) (by decide) (n := 1) rfl g1 g2 rfl ?_
  refine r_dup (kd4 rfl) rfl rfl ?_
  refine r_sipush (kd4 rfl) (y := 1500) (by decide) rfl ?_
  obtain ⟨g, h⟩ := h
  obtain ⟨mc, ms, q1, q2, h⟩ := h
  refine r_callIV (d' := d - 1) (by omega) (kd4 rfl) (by decide) rfl rfl rfl rfl (Nat.le_of_ble_eq_true rfl) rfl L17 (Nat.le_of_ble_eq_true rfl) (Nat.le_of_ble_eq_true rfl) g q1 q2 rfl rfl rfl (b_Row_init (by omega) h) (fun M1 h => ?_)
  obtain ⟨g, h⟩ := h
  have h := h _ rfl
  refine r_put2 (kd4 rfl) (by decide) rfl g rfl ?_
  refine r_aload_n (kd4 rfl) rfl rfl ?_
  obtain ⟨g1, g2, h⟩ := h
  have h := h _ rfl
  refine r_new (kd4 rfl) (by decide) (n := 1) rfl g1 g2 rfl ?_
  refine r_dup (kd4 rfl) rfl rfl ?_
  refine r_sipush (kd4 rfl) (y := 500) (by decide) rfl ?_
  obtain ⟨g, h⟩ := h
  obtain ⟨mc, ms, q1, q2, h⟩ := h
  refine r_callIV (d' := d - 1) (by omega) (kd4 rfl) (by decide) rfl rfl rfl rfl (Nat.le_of_ble_eq_true rfl) rfl L17 (Nat.le_of_ble_eq_true rfl) (Nat.le_of_ble_eq_true rfl) g q1 q2 rfl rfl rfl (b_Row_init (by omega) h) (fun M1 h => ?_)
  obtain ⟨g, h⟩ := h
  have h := h _ rfl
  refine r_put2 (kd4 rfl) (by decide) rfl g rfl ?_
  refine r_aload_n (kd4 rfl) rfl rfl ?_
  obtain ⟨g1, g2, h⟩ := h
  have h := h _ rfl
  refine r_new (kd4 rfl) (by decide) (n := 1) rfl g1 g2 rfl ?_
  refine r_dup (kd4 rfl) rfl rfl ?_
  refine r_bipush (kd4 rfl) (y := 100) (by decide) rfl ?_
  obtain ⟨g, h⟩ := h
  obtain ⟨mc, ms, q1, q2, h⟩ := h
  refine r_callIV (d' := d - 1) (by omega) (kd4 rfl) (by decide) rfl rfl rfl rfl (Nat.le_of_ble_eq_true rfl) rfl L17 (Nat.le_of_ble_eq_true rfl) (Nat.le_of_ble_eq_true rfl) g q1 q2 rfl rfl rfl (b_Row_init (by omega) h) (fun M1 h => ?_)
  obtain ⟨g, h⟩ := h
  have h := h _ rfl
  refine r_put2 (kd4 rfl) (by decide) rfl g rfl ?_
  refine r_aload_n (kd4 rfl) rfl rfl ?_
  obtain ⟨g, h⟩ := h
  refine r_get2 (kd4 rfl) (by decide) rfl g rfl ?_
  obtain ⟨g, h⟩ := h
  refine r_callVV (d' := d - 1) (by omega) (kd4 rfl) (by decide) rfl rfl rfl rfl (Nat.le_of_ble_eq_true rfl) rfl L22 (Nat.le_of_ble_eq_true rfl) (Nat.le_of_ble_eq_true rfl) g (Nat.zero_le _) (Nat.zero_le _) rfl rfl rfl (b_Tiers_clear (by omega) h) (fun M1 h => ?_)
  exact r_return (kd4 rfl) R4 h
/-- TierMill$Machine.takeInput(I)Z -/
theorem kd5 {pc : Nat} {q : eI} (h : e_d5.lookup pc = some q) : e_dec 5 pc = some q := h
theorem L5 : (e_m 5).2.2.1 = 2 := rfl
theorem R5 : (e_m 5).2.2.2.1 = (some .boolean) := rfl
def w_Machine_takeInput (l0 : Nat) (l1 : Int32) (M : eM) (Q : Int32 → eM → Prop) : Prop := e_ob M l0 3 ∧ ((gi M l0 12) < 100 → e_ob M l0 3 ∧ e_ob M l0 3 ∧ e_ob M l0 3 ∧ ¬ (100 : Int32) = 0 ∧ e_ob M (gr M l0 13) 7 ∧ w_Row_set (gr M l0 13) (((gi M l0 14) + (gi M l0 12)) - ((gi M l0 14) + (gi M l0 12)) / 100 * 100) l1 M (fun (M1 : eM) => e_ob M1 l0 3 ∧ e_ob M1 l0 3 ∧ ∀ M2 : eM, M2 = e_si M1 l0 12 ((gi M1 l0 12) + 1) → ((1 : Int32) = 0 ∨ (1 : Int32) = 1) ∧ Q (1 : Int32) M2)) ∧ (¬ (gi M l0 12) < 100 → ((0 : Int32) = 0 ∨ (0 : Int32) = 1) ∧ Q (0 : Int32) M)
theorem b_Machine_takeInput {d : Nat} {l0 : Nat} {l1 : Int32} {M : eM} {Q : Int32 → eM → Prop} (hd : 1 ≤ d) (h : w_Machine_takeInput l0 l1 M Q) : e_CI 5 d 0 0 [.ref l0, .int l1] M Q := by
  unfold w_Machine_takeInput at h
  show e_E 5 d 0 0 0 [(0, .ref l0), (1, .int l1)] [] M (e_QI Q)
  refine r_aload_n (kd5 rfl) rfl rfl ?_
  obtain ⟨g, h⟩ := h
  refine r_get0 (kd5 rfl) (by decide) rfl g rfl ?_
  refine r_bipush (kd5 rfl) (y := 100) (by decide) rfl ?_
  refine r_icmp_lt (kd5 rfl) rfl (fun c => ?_) (fun c => ?_)
  · have h := h.1 c
    refine r_aload_n (kd5 rfl) rfl rfl ?_
    obtain ⟨g, h⟩ := h
    refine r_get2 (kd5 rfl) (by decide) rfl g rfl ?_
    refine r_aload_n (kd5 rfl) rfl rfl ?_
    obtain ⟨g, h⟩ := h
    refine r_get0 (kd5 rfl) (by decide) rfl g rfl ?_
    refine r_aload_n (kd5 rfl) rfl rfl ?_
    obtain ⟨g, h⟩ := h
    refine r_get0 (kd5 rfl) (by decide) rfl g rfl ?_
    refine r_iadd (kd5 rfl) rfl ?_
    refine r_bipush (kd5 rfl) (y := 100) (by decide) rfl ?_
    obtain ⟨g, h⟩ := h
    refine r_irem (kd5 rfl) g rfl ?_
    refine r_iload_n (kd5 rfl) rfl rfl ?_
    obtain ⟨g, h⟩ := h
    refine r_callVV (d' := d - 1) (by omega) (kd5 rfl) (by decide) rfl rfl rfl rfl (Nat.le_of_ble_eq_true rfl) rfl L18 (Nat.le_of_ble_eq_true rfl) (Nat.le_of_ble_eq_true rfl) g (Nat.zero_le _) (Nat.zero_le _) rfl rfl rfl (b_Row_set (by omega) h) (fun M1 h => ?_)
    refine r_aload_n (kd5 rfl) rfl rfl ?_
    refine r_dup (kd5 rfl) rfl rfl ?_
    obtain ⟨g, h⟩ := h
    refine r_get0 (kd5 rfl) (by decide) rfl g rfl ?_
    refine r_iconst (kd5 rfl) (y := 1) (by decide) rfl ?_
    refine r_iadd (kd5 rfl) rfl ?_
    obtain ⟨g, h⟩ := h
    have h := h _ rfl
    refine r_put0 (kd5 rfl) (by decide) rfl g rfl ?_
    refine r_iconst (kd5 rfl) (y := 1) (by decide) rfl ?_
    exact r_zreturn (kd5 rfl) R5 h.1 h.2
  · have h := h.2 c
    refine r_iconst (kd5 rfl) (y := 0) (by decide) rfl ?_
    exact r_zreturn (kd5 rfl) R5 h.1 h.2
/-- TierMill$Shape.<init>()V -/
theorem kd20 {pc : Nat} {q : eI} (h : e_d20.lookup pc = some q) : e_dec 20 pc = some q := h
theorem L20 : (e_m 20).2.2.1 = 1 := rfl
theorem R20 : (e_m 20).2.2.2.1 = none := rfl
def w_Shape_init (kc ks : Nat) (l0 : Nat) (M : eM) (Q : eM → Prop) : Prop := e_c0 ≤ l0 ∧ 1 ≤ kc ∧ 1 ≤ ks ∧ ∀ M1 : eM, M1 = e_new M 7 0 → e_c0 ≤ M.1 ∧ ∃ kc3 ks4 : Nat, kc3 ≤ (kc - 1) ∧ ks4 ≤ (ks - 1) ∧ w_Row_init kc3 ks4 M.1 4 M1 (fun (M2 : eM) => e_ob M2 l0 8 ∧ ∀ M5 : eM, M5 = e_sr M2 l0 0 M.1 → Q M5)
theorem b_Shape_init {d : Nat} {kc ks : Nat} {l0 : Nat} {M : eM} {Q : eM → Prop} (hd : 1 ≤ d) (h : w_Shape_init kc ks l0 M Q) : e_CV 20 d kc ks [.ref l0] M Q := by
  unfold w_Shape_init at h
  show e_E 20 d kc ks 0 [(0, .ref l0)] [] M (e_QV Q)
  refine r_aload_n (kd20 rfl) rfl rfl ?_
  obtain ⟨g, h⟩ := h
  refine r_objInit (kd20 rfl) g (Nat.le_of_ble_eq_true rfl) rfl ?_
  refine r_aload_n (kd20 rfl) rfl rfl ?_
  obtain ⟨g1, g2, h⟩ := h
  have h := h _ rfl
  refine r_new (kd20 rfl) (by decide) (n := 1) rfl g1 g2 rfl ?_
  refine r_dup (kd20 rfl) rfl rfl ?_
  refine r_iconst (kd20 rfl) (y := 4) (by decide) rfl ?_
  obtain ⟨g, h⟩ := h
  obtain ⟨mc, ms, q1, q2, h⟩ := h
  refine r_callIV (d' := d - 1) (by omega) (kd20 rfl) (by decide) rfl rfl rfl rfl (Nat.le_of_ble_eq_true rfl) rfl L17 (Nat.le_of_ble_eq_true rfl) (Nat.le_of_ble_eq_true rfl) g q1 q2 rfl rfl rfl (b_Row_init (by omega) h) (fun M1 h => ?_)
  obtain ⟨g, h⟩ := h
  have h := h _ rfl
  refine r_put2 (kd20 rfl) (by decide) rfl g rfl ?_
  exact r_return (kd20 rfl) R20 h
/-- TierMill$Program.<init>()V -/
theorem kd6 {pc : Nat} {q : eI} (h : e_d6.lookup pc = some q) : e_dec 6 pc = some q := h
theorem L6 : (e_m 6).2.2.1 = 2 := rfl
theorem R6 : (e_m 6).2.2.2.1 = none := rfl
set_option maxRecDepth 100000 in
def w_Program_init_117 : Nat → Nat → Nat → Nat → Int32 → eM → (eM → Prop) → Prop
  | 0, _, _, _, _, _, _ => False
  | n + 1, kc, ks, l0, l1, M, Q => (16 ≤ l1 → 1 ≤ kc ∧ 1 ≤ ks ∧ ∀ M37 : eM, M37 = e_new M 7 0 → e_c0 ≤ M.1 ∧ ∃ kc39 ks40 : Nat, kc39 ≤ (kc - 1) ∧ ks40 ≤ (ks - 1) ∧ w_Row_init kc39 ks40 M.1 64 M37 (fun (M38 : eM) => e_ob M38 l0 5 ∧ ∀ M41 : eM, M41 = e_sr M38 l0 11 M.1 → 1 ≤ (kc - 1 - kc39) ∧ 1 ≤ (ks - 1 - ks40) ∧ ∀ M42 : eM, M42 = e_new M41 7 0 → e_c0 ≤ M41.1 ∧ ∃ kc44 ks45 : Nat, kc44 ≤ (kc - 1 - kc39 - 1) ∧ ks45 ≤ (ks - 1 - ks40 - 1) ∧ w_Row_init kc44 ks45 M41.1 1500 M42 (fun (M43 : eM) => e_ob M43 l0 5 ∧ ∀ M46 : eM, M46 = e_sr M43 l0 12 M41.1 → 1 ≤ (kc - 1 - kc39 - 1 - kc44) ∧ 1 ≤ (ks - 1 - ks40 - 1 - ks45) ∧ ∀ M47 : eM, M47 = e_new M46 7 0 → e_c0 ≤ M46.1 ∧ ∃ kc49 ks50 : Nat, kc49 ≤ (kc - 1 - kc39 - 1 - kc44 - 1) ∧ ks50 ≤ (ks - 1 - ks40 - 1 - ks45 - 1) ∧ w_Row_init kc49 ks50 M46.1 1500 M47 (fun (M48 : eM) => e_ob M48 l0 5 ∧ ∀ M51 : eM, M51 = e_sr M48 l0 13 M46.1 → 1 ≤ (kc - 1 - kc39 - 1 - kc44 - 1 - kc49) ∧ 1 ≤ (ks - 1 - ks40 - 1 - ks45 - 1 - ks50) ∧ ∀ M52 : eM, M52 = e_new M51 7 0 → e_c0 ≤ M51.1 ∧ ∃ kc54 ks55 : Nat, kc54 ≤ (kc - 1 - kc39 - 1 - kc44 - 1 - kc49 - 1) ∧ ks55 ≤ (ks - 1 - ks40 - 1 - ks45 - 1 - ks50 - 1) ∧ w_Row_init kc54 ks55 M51.1 1500 M52 (fun (M53 : eM) => e_ob M53 l0 5 ∧ ∀ M56 : eM, M56 = e_sr M53 l0 15 M51.1 → ¬ (1500 : Int32) < 0 ∧ (1500 : Int32).toNatClampNeg ≤ 400000 ∧ 1 ≤ (kc - 1 - kc39 - 1 - kc44 - 1 - kc49 - 1 - kc54) ∧ (1500 : Int32).toNatClampNeg ≤ (ks - 1 - ks40 - 1 - ks45 - 1 - ks50 - 1 - ks55) ∧ ∀ M57 : eM, M57 = e_new M56 21 (1500 : Int32).toNatClampNeg → e_ob M57 l0 5 ∧ ∀ M58 : eM, M58 = e_sr M57 l0 16 M56.1 → ¬ (1500 : Int32) < 0 ∧ (1500 : Int32).toNatClampNeg ≤ 400000 ∧ 1 ≤ (kc - 1 - kc39 - 1 - kc44 - 1 - kc49 - 1 - kc54 - 1) ∧ (1500 : Int32).toNatClampNeg ≤ (ks - 1 - ks40 - 1 - ks45 - 1 - ks50 - 1 - ks55 - (1500 : Int32).toNatClampNeg) ∧ ∀ M59 : eM, M59 = e_new M58 21 (1500 : Int32).toNatClampNeg → e_ob M59 l0 5 ∧ ∀ M60 : eM, M60 = e_sr M59 l0 17 M58.1 → Q M60))))) ∧ (¬ 16 ≤ l1 → e_ob M l0 5 ∧ 1 ≤ kc ∧ 7 ≤ ks ∧ ∀ M61 : eM, M61 = e_new M 8 0 → e_c0 ≤ M.1 ∧ ∃ kc63 ks64 : Nat, kc63 ≤ (kc - 1) ∧ ks64 ≤ (ks - 7) ∧ w_Shape_init kc63 ks64 M.1 M61 (fun (M62 : eM) => ((e_ar M62 (gr M l0 10) 23 l1 ∧ e_ob M62 M.1 4) ∨ (e_ar M62 (gr M l0 10) 24 l1 ∧ e_ob M62 M.1 8)) ∧ ∀ M65 : eM, M65 = e_sr M62 (gr M l0 10) l1.toNatClampNeg M.1 → (fun kc ks l0 l1 M => w_Program_init_117 n kc ks l0 l1 M Q ) (kc - 1 - kc63) (ks - 7 - ks64) l0 (l1 + 1) M65))
set_option maxRecDepth 100000 in
theorem b_Program_init_117 {d : Nat} {Q : eM → Prop} (hd : 2 ≤ d) (n : Nat) : ∀ (kc ks : Nat) (l0 : Nat) (l1 : Int32) (M : eM), w_Program_init_117 n kc ks l0 l1 M Q → e_E 6 d kc ks 117 [(0, .ref l0), (1, .int l1)] [] M (e_QV Q) := by
  induction n with
  | zero => intro kc ks l0 l1 M h; exact False.elim h
  | succ n ih =>
    intro kc ks l0 l1 M h
    have hk117 := ih
    refine r_iload_n (kd6 rfl) rfl rfl ?_
    refine r_bipush (kd6 rfl) (y := 16) (by decide) rfl ?_
    refine r_icmp_ge (kd6 rfl) rfl (fun c => ?_) (fun c => ?_)
    · have h := h.1 c
      refine r_aload_n (kd6 rfl) rfl rfl ?_
      obtain ⟨g1, g2, h⟩ := h
      have h := h _ rfl
      refine r_new (kd6 rfl) (by decide) (n := 1) rfl g1 g2 rfl ?_
      refine r_dup (kd6 rfl) rfl rfl ?_
      refine r_bipush (kd6 rfl) (y := 64) (by decide) rfl ?_
      obtain ⟨g, h⟩ := h
      obtain ⟨mc, ms, q1, q2, h⟩ := h
      refine r_callIV (d' := d - 1) (by omega) (kd6 rfl) (by decide) rfl rfl rfl rfl (Nat.le_of_ble_eq_true rfl) rfl L17 (Nat.le_of_ble_eq_true rfl) (Nat.le_of_ble_eq_true rfl) g q1 q2 rfl rfl rfl (b_Row_init (by omega) h) (fun M1 h => ?_)
      obtain ⟨g, h⟩ := h
      have h := h _ rfl
      refine r_put2 (kd6 rfl) (by decide) rfl g rfl ?_
      refine r_aload_n (kd6 rfl) rfl rfl ?_
      obtain ⟨g1, g2, h⟩ := h
      have h := h _ rfl
      refine r_new (kd6 rfl) (by decide) (n := 1) rfl g1 g2 rfl ?_
      refine r_dup (kd6 rfl) rfl rfl ?_
      refine r_sipush (kd6 rfl) (y := 1500) (by decide) rfl ?_
      obtain ⟨g, h⟩ := h
      obtain ⟨mc, ms, q1, q2, h⟩ := h
      refine r_callIV (d' := d - 1) (by omega) (kd6 rfl) (by decide) rfl rfl rfl rfl (Nat.le_of_ble_eq_true rfl) rfl L17 (Nat.le_of_ble_eq_true rfl) (Nat.le_of_ble_eq_true rfl) g q1 q2 rfl rfl rfl (b_Row_init (by omega) h) (fun M1 h => ?_)
      obtain ⟨g, h⟩ := h
      have h := h _ rfl
      refine r_put2 (kd6 rfl) (by decide) rfl g rfl ?_
      refine r_aload_n (kd6 rfl) rfl rfl ?_
      obtain ⟨g1, g2, h⟩ := h
      have h := h _ rfl
      refine r_new (kd6 rfl) (by decide) (n := 1) rfl g1 g2 rfl ?_
      refine r_dup (kd6 rfl) rfl rfl ?_
      refine r_sipush (kd6 rfl) (y := 1500) (by decide) rfl ?_
      obtain ⟨g, h⟩ := h
      obtain ⟨mc, ms, q1, q2, h⟩ := h
      refine r_callIV (d' := d - 1) (by omega) (kd6 rfl) (by decide) rfl rfl rfl rfl (Nat.le_of_ble_eq_true rfl) rfl L17 (Nat.le_of_ble_eq_true rfl) (Nat.le_of_ble_eq_true rfl) g q1 q2 rfl rfl rfl (b_Row_init (by omega) h) (fun M1 h => ?_)
      obtain ⟨g, h⟩ := h
      have h := h _ rfl
      refine r_put2 (kd6 rfl) (by decide) rfl g rfl ?_
      refine r_aload_n (kd6 rfl) rfl rfl ?_
      obtain ⟨g1, g2, h⟩ := h
      have h := h _ rfl
      refine r_new (kd6 rfl) (by decide) (n := 1) rfl g1 g2 rfl ?_
      refine r_dup (kd6 rfl) rfl rfl ?_
      refine r_sipush (kd6 rfl) (y := 1500) (by decide) rfl ?_
      obtain ⟨g, h⟩ := h
      obtain ⟨mc, ms, q1, q2, h⟩ := h
      refine r_callIV (d' := d - 1) (by omega) (kd6 rfl) (by decide) rfl rfl rfl rfl (Nat.le_of_ble_eq_true rfl) rfl L17 (Nat.le_of_ble_eq_true rfl) (Nat.le_of_ble_eq_true rfl) g q1 q2 rfl rfl rfl (b_Row_init (by omega) h) (fun M1 h => ?_)
      obtain ⟨g, h⟩ := h
      have h := h _ rfl
      refine r_put2 (kd6 rfl) (by decide) rfl g rfl ?_
      refine r_aload_n (kd6 rfl) rfl rfl ?_
      refine r_sipush (kd6 rfl) (y := 1500) (by decide) rfl ?_
      obtain ⟨g0, g3, g1, g2, h⟩ := h
      have h := h _ rfl
      refine r_newarray (kd6 rfl) (by decide) g0 g3 g1 g2 rfl ?_
      obtain ⟨g, h⟩ := h
      have h := h _ rfl
      refine r_put2 (kd6 rfl) (by decide) rfl g rfl ?_
      refine r_aload_n (kd6 rfl) rfl rfl ?_
      refine r_sipush (kd6 rfl) (y := 1500) (by decide) rfl ?_
      obtain ⟨g0, g3, g1, g2, h⟩ := h
      have h := h _ rfl
      refine r_newarray (kd6 rfl) (by decide) g0 g3 g1 g2 rfl ?_
      obtain ⟨g, h⟩ := h
      have h := h _ rfl
      refine r_put2 (kd6 rfl) (by decide) rfl g rfl ?_
      exact r_return (kd6 rfl) R6 h
    · have h := h.2 c
      refine r_aload_n (kd6 rfl) rfl rfl ?_
      obtain ⟨g, h⟩ := h
      refine r_get2 (kd6 rfl) (by decide) rfl g rfl ?_
      refine r_iload_n (kd6 rfl) rfl rfl ?_
      obtain ⟨g1, g2, h⟩ := h
      have h := h _ rfl
      refine r_new (kd6 rfl) (by decide) (n := 7) rfl g1 g2 rfl ?_
      refine r_dup (kd6 rfl) rfl rfl ?_
      obtain ⟨g, h⟩ := h
      obtain ⟨mc, ms, q1, q2, h⟩ := h
      refine r_callIV (d' := d - 1) (by omega) (kd6 rfl) (by decide) rfl rfl rfl rfl (Nat.le_of_ble_eq_true rfl) rfl L20 (Nat.le_of_ble_eq_true rfl) (Nat.le_of_ble_eq_true rfl) g q1 q2 rfl rfl rfl (b_Shape_init (by omega) h) (fun M1 h => ?_)
      obtain ⟨g, h⟩ := h
      have h := h _ rfl
      refine r_aastore (kd6 rfl) g rfl ?_
      refine r_iinc (kd6 rfl) rfl (y := 1) (by decide) L6 (by decide) rfl rfl ?_
      refine r_goto (kd6 rfl) ?_
      exact (hk117 _ _ _ _ _ h).less (e_sc (List.mem_of_getElem? (i := 1) rfl) (e_sc (List.mem_of_getElem? (i := 0) rfl) e_sn))
set_option maxRecDepth 100000 in
def w_Program_init_81 : Nat → Nat → Nat → Nat → Int32 → eM → (eM → Prop) → Prop
  | 0, _, _, _, _, _, _ => False
  | n + 1, kc, ks, l0, l1, M, Q => (8 ≤ l1 → ¬ (16 : Int32) < 0 ∧ (16 : Int32).toNatClampNeg ≤ 400000 ∧ 1 ≤ kc ∧ (16 : Int32).toNatClampNeg ≤ ks ∧ ∀ M29 : eM, M29 = e_new M 24 (16 : Int32).toNatClampNeg → e_ob M29 l0 5 ∧ ∀ M30 : eM, M30 = e_sr M29 l0 10 M.1 → ∃ n31 : Nat, w_Program_init_117 n31 (kc - 1) (ks - (16 : Int32).toNatClampNeg) l0 0 M30 Q) ∧ (¬ 8 ≤ l1 → e_ob M l0 5 ∧ 1 ≤ kc ∧ 7 ≤ ks ∧ ∀ M32 : eM, M32 = e_new M 8 0 → e_c0 ≤ M.1 ∧ ∃ kc34 ks35 : Nat, kc34 ≤ (kc - 1) ∧ ks35 ≤ (ks - 7) ∧ w_Shape_init kc34 ks35 M.1 M32 (fun (M33 : eM) => ((e_ar M33 (gr M l0 8) 23 l1 ∧ e_ob M33 M.1 4) ∨ (e_ar M33 (gr M l0 8) 24 l1 ∧ e_ob M33 M.1 8)) ∧ ∀ M36 : eM, M36 = e_sr M33 (gr M l0 8) l1.toNatClampNeg M.1 → (fun kc ks l0 l1 M => w_Program_init_81 n kc ks l0 l1 M Q ) (kc - 1 - kc34) (ks - 7 - ks35) l0 (l1 + 1) M36))
set_option maxRecDepth 100000 in
theorem b_Program_init_81 {d : Nat} {Q : eM → Prop} (hd : 2 ≤ d) (n : Nat) : ∀ (kc ks : Nat) (l0 : Nat) (l1 : Int32) (M : eM), w_Program_init_81 n kc ks l0 l1 M Q → e_E 6 d kc ks 81 [(0, .ref l0), (1, .int l1)] [] M (e_QV Q) := by
  induction n with
  | zero => intro kc ks l0 l1 M h; exact False.elim h
  | succ n ih =>
    intro kc ks l0 l1 M h
    have hk81 := ih
    refine r_iload_n (kd6 rfl) rfl rfl ?_
    refine r_bipush (kd6 rfl) (y := 8) (by decide) rfl ?_
    refine r_icmp_ge (kd6 rfl) rfl (fun c => ?_) (fun c => ?_)
    · have h := h.1 c
      refine r_aload_n (kd6 rfl) rfl rfl ?_
      refine r_bipush (kd6 rfl) (y := 16) (by decide) rfl ?_
      obtain ⟨g0, g3, g1, g2, h⟩ := h
      have h := h _ rfl
      refine r_anewarray (kd6 rfl) (by decide) g0 g3 g1 g2 rfl ?_
      obtain ⟨g, h⟩ := h
      have h := h _ rfl
      refine r_put2 (kd6 rfl) (by decide) rfl g rfl ?_
      refine r_iconst (kd6 rfl) (y := 0) (by decide) rfl ?_
      refine r_istore_n (kd6 rfl) L6 (by decide) rfl rfl ?_
      obtain ⟨n, h⟩ := h
      exact (b_Program_init_117 hd n _ _ _ _ _ h).less (e_sc (List.mem_of_getElem? (i := 1) rfl) (e_sc (List.mem_of_getElem? (i := 0) rfl) e_sn))
    · have h := h.2 c
      refine r_aload_n (kd6 rfl) rfl rfl ?_
      obtain ⟨g, h⟩ := h
      refine r_get2 (kd6 rfl) (by decide) rfl g rfl ?_
      refine r_iload_n (kd6 rfl) rfl rfl ?_
      obtain ⟨g1, g2, h⟩ := h
      have h := h _ rfl
      refine r_new (kd6 rfl) (by decide) (n := 7) rfl g1 g2 rfl ?_
      refine r_dup (kd6 rfl) rfl rfl ?_
      obtain ⟨g, h⟩ := h
      obtain ⟨mc, ms, q1, q2, h⟩ := h
      refine r_callIV (d' := d - 1) (by omega) (kd6 rfl) (by decide) rfl rfl rfl rfl (Nat.le_of_ble_eq_true rfl) rfl L20 (Nat.le_of_ble_eq_true rfl) (Nat.le_of_ble_eq_true rfl) g q1 q2 rfl rfl rfl (b_Shape_init (by omega) h) (fun M1 h => ?_)
      obtain ⟨g, h⟩ := h
      have h := h _ rfl
      refine r_aastore (kd6 rfl) g rfl ?_
      refine r_iinc (kd6 rfl) rfl (y := 1) (by decide) L6 (by decide) rfl rfl ?_
      refine r_goto (kd6 rfl) ?_
      exact (hk81 _ _ _ _ _ h).less (e_sc (List.mem_of_getElem? (i := 1) rfl) (e_sc (List.mem_of_getElem? (i := 0) rfl) e_sn))
set_option maxRecDepth 100000 in
def w_Program_init (kc ks : Nat) (l0 : Nat) (M : eM) (Q : eM → Prop) : Prop := e_c0 ≤ l0 ∧ 1 ≤ kc ∧ 1 ≤ ks ∧ ∀ M1 : eM, M1 = e_new M 7 0 → e_c0 ≤ M.1 ∧ ∃ kc3 ks4 : Nat, kc3 ≤ (kc - 1) ∧ ks4 ≤ (ks - 1) ∧ w_Row_init kc3 ks4 M.1 1500 M1 (fun (M2 : eM) => e_ob M2 l0 5 ∧ ∀ M5 : eM, M5 = e_sr M2 l0 0 M.1 → 1 ≤ (kc - 1 - kc3) ∧ 1 ≤ (ks - 1 - ks4) ∧ ∀ M6 : eM, M6 = e_new M5 7 0 → e_c0 ≤ M5.1 ∧ ∃ kc8 ks9 : Nat, kc8 ≤ (kc - 1 - kc3 - 1) ∧ ks9 ≤ (ks - 1 - ks4 - 1) ∧ w_Row_init kc8 ks9 M5.1 8 M6 (fun (M7 : eM) => e_ob M7 l0 5 ∧ ∀ M10 : eM, M10 = e_sr M7 l0 3 M5.1 → 1 ≤ (kc - 1 - kc3 - 1 - kc8) ∧ 1 ≤ (ks - 1 - ks4 - 1 - ks9) ∧ ∀ M11 : eM, M11 = e_new M10 7 0 → e_c0 ≤ M10.1 ∧ ∃ kc13 ks14 : Nat, kc13 ≤ (kc - 1 - kc3 - 1 - kc8 - 1) ∧ ks14 ≤ (ks - 1 - ks4 - 1 - ks9 - 1) ∧ w_Row_init kc13 ks14 M10.1 8 M11 (fun (M12 : eM) => e_ob M12 l0 5 ∧ ∀ M15 : eM, M15 = e_sr M12 l0 4 M10.1 → 1 ≤ (kc - 1 - kc3 - 1 - kc8 - 1 - kc13) ∧ 1 ≤ (ks - 1 - ks4 - 1 - ks9 - 1 - ks14) ∧ ∀ M16 : eM, M16 = e_new M15 7 0 → e_c0 ≤ M15.1 ∧ ∃ kc18 ks19 : Nat, kc18 ≤ (kc - 1 - kc3 - 1 - kc8 - 1 - kc13 - 1) ∧ ks19 ≤ (ks - 1 - ks4 - 1 - ks9 - 1 - ks14 - 1) ∧ w_Row_init kc18 ks19 M15.1 8 M16 (fun (M17 : eM) => e_ob M17 l0 5 ∧ ∀ M20 : eM, M20 = e_sr M17 l0 5 M15.1 → 1 ≤ (kc - 1 - kc3 - 1 - kc8 - 1 - kc13 - 1 - kc18) ∧ 1 ≤ (ks - 1 - ks4 - 1 - ks9 - 1 - ks14 - 1 - ks19) ∧ ∀ M21 : eM, M21 = e_new M20 7 0 → e_c0 ≤ M20.1 ∧ ∃ kc23 ks24 : Nat, kc23 ≤ (kc - 1 - kc3 - 1 - kc8 - 1 - kc13 - 1 - kc18 - 1) ∧ ks24 ≤ (ks - 1 - ks4 - 1 - ks9 - 1 - ks14 - 1 - ks19 - 1) ∧ w_Row_init kc23 ks24 M20.1 64 M21 (fun (M22 : eM) => e_ob M22 l0 5 ∧ ∀ M25 : eM, M25 = e_sr M22 l0 6 M20.1 → ¬ (8 : Int32) < 0 ∧ (8 : Int32).toNatClampNeg ≤ 400000 ∧ 1 ≤ (kc - 1 - kc3 - 1 - kc8 - 1 - kc13 - 1 - kc18 - 1 - kc23) ∧ (8 : Int32).toNatClampNeg ≤ (ks - 1 - ks4 - 1 - ks9 - 1 - ks14 - 1 - ks19 - 1 - ks24) ∧ ∀ M26 : eM, M26 = e_new M25 24 (8 : Int32).toNatClampNeg → e_ob M26 l0 5 ∧ ∀ M27 : eM, M27 = e_sr M26 l0 8 M25.1 → ∃ n28 : Nat, w_Program_init_81 n28 (kc - 1 - kc3 - 1 - kc8 - 1 - kc13 - 1 - kc18 - 1 - kc23 - 1) (ks - 1 - ks4 - 1 - ks9 - 1 - ks14 - 1 - ks19 - 1 - ks24 - (8 : Int32).toNatClampNeg) l0 0 M27 Q)))))
set_option maxRecDepth 100000 in
theorem b_Program_init {d : Nat} {kc ks : Nat} {l0 : Nat} {M : eM} {Q : eM → Prop} (hd : 2 ≤ d) (h : w_Program_init kc ks l0 M Q) : e_CV 6 d kc ks [.ref l0] M Q := by
  unfold w_Program_init at h
  show e_E 6 d kc ks 0 [(0, .ref l0)] [] M (e_QV Q)
  refine r_aload_n (kd6 rfl) rfl rfl ?_
  obtain ⟨g, h⟩ := h
  refine r_objInit (kd6 rfl) g (Nat.le_of_ble_eq_true rfl) rfl ?_
  refine r_aload_n (kd6 rfl) rfl rfl ?_
  obtain ⟨g1, g2, h⟩ := h
  have h := h _ rfl
  refine r_new (kd6 rfl) (by decide) (n := 1) rfl g1 g2 rfl ?_
  refine r_dup (kd6 rfl) rfl rfl ?_
  refine r_sipush (kd6 rfl) (y := 1500) (by decide) rfl ?_
  obtain ⟨g, h⟩ := h
  obtain ⟨mc, ms, q1, q2, h⟩ := h
  refine r_callIV (d' := d - 1) (by omega) (kd6 rfl) (by decide) rfl rfl rfl rfl (Nat.le_of_ble_eq_true rfl) rfl L17 (Nat.le_of_ble_eq_true rfl) (Nat.le_of_ble_eq_true rfl) g q1 q2 rfl rfl rfl (b_Row_init (by omega) h) (fun M1 h => ?_)
  obtain ⟨g, h⟩ := h
  have h := h _ rfl
  refine r_put2 (kd6 rfl) (by decide) rfl g rfl ?_
  refine r_aload_n (kd6 rfl) rfl rfl ?_
  obtain ⟨g1, g2, h⟩ := h
  have h := h _ rfl
  refine r_new (kd6 rfl) (by decide) (n := 1) rfl g1 g2 rfl ?_
  refine r_dup (kd6 rfl) rfl rfl ?_
  refine r_bipush (kd6 rfl) (y := 8) (by decide) rfl ?_
  obtain ⟨g, h⟩ := h
  obtain ⟨mc, ms, q1, q2, h⟩ := h
  refine r_callIV (d' := d - 1) (by omega) (kd6 rfl) (by decide) rfl rfl rfl rfl (Nat.le_of_ble_eq_true rfl) rfl L17 (Nat.le_of_ble_eq_true rfl) (Nat.le_of_ble_eq_true rfl) g q1 q2 rfl rfl rfl (b_Row_init (by omega) h) (fun M1 h => ?_)
  obtain ⟨g, h⟩ := h
  have h := h _ rfl
  refine r_put2 (kd6 rfl) (by decide) rfl g rfl ?_
  refine r_aload_n (kd6 rfl) rfl rfl ?_
  obtain ⟨g1, g2, h⟩ := h
  have h := h _ rfl
  refine r_new (kd6 rfl) (by decide) (n := 1) rfl g1 g2 rfl ?_
  refine r_dup (kd6 rfl) rfl rfl ?_
  refine r_bipush (kd6 rfl) (y := 8) (by decide) rfl ?_
  obtain ⟨g, h⟩ := h
  obtain ⟨mc, ms, q1, q2, h⟩ := h
  refine r_callIV (d' := d - 1) (by omega) (kd6 rfl) (by decide) rfl rfl rfl rfl (Nat.le_of_ble_eq_true rfl) rfl L17 (Nat.le_of_ble_eq_true rfl) (Nat.le_of_ble_eq_true rfl) g q1 q2 rfl rfl rfl (b_Row_init (by omega) h) (fun M1 h => ?_)
  obtain ⟨g, h⟩ := h
  have h := h _ rfl
  refine r_put2 (kd6 rfl) (by decide) rfl g rfl ?_
  refine r_aload_n (kd6 rfl) rfl rfl ?_
  obtain ⟨g1, g2, h⟩ := h
  have h := h _ rfl
  refine r_new (kd6 rfl) (by decide) (n := 1) rfl g1 g2 rfl ?_
  refine r_dup (kd6 rfl) rfl rfl ?_
  refine r_bipush (kd6 rfl) (y := 8) (by decide) rfl ?_
  obtain ⟨g, h⟩ := h
  obtain ⟨mc, ms, q1, q2, h⟩ := h
  refine r_callIV (d' := d - 1) (by omega) (kd6 rfl) (by decide) rfl rfl rfl rfl (Nat.le_of_ble_eq_true rfl) rfl L17 (Nat.le_of_ble_eq_true rfl) (Nat.le_of_ble_eq_true rfl) g q1 q2 rfl rfl rfl (b_Row_init (by omega) h) (fun M1 h => ?_)
  obtain ⟨g, h⟩ := h
  have h := h _ rfl
  refine r_put2 (kd6 rfl) (by decide) rfl g rfl ?_
  refine r_aload_n (kd6 rfl) rfl rfl ?_
  obtain ⟨g1, g2, h⟩ := h
  have h := h _ rfl
  refine r_new (kd6 rfl) (by decide) (n := 1) rfl g1 g2 rfl ?_
  refine r_dup (kd6 rfl) rfl rfl ?_
  refine r_bipush (kd6 rfl) (y := 64) (by decide) rfl ?_
  obtain ⟨g, h⟩ := h
  obtain ⟨mc, ms, q1, q2, h⟩ := h
  refine r_callIV (d' := d - 1) (by omega) (kd6 rfl) (by decide) rfl rfl rfl rfl (Nat.le_of_ble_eq_true rfl) rfl L17 (Nat.le_of_ble_eq_true rfl) (Nat.le_of_ble_eq_true rfl) g q1 q2 rfl rfl rfl (b_Row_init (by omega) h) (fun M1 h => ?_)
  obtain ⟨g, h⟩ := h
  have h := h _ rfl
  refine r_put2 (kd6 rfl) (by decide) rfl g rfl ?_
  refine r_aload_n (kd6 rfl) rfl rfl ?_
  refine r_bipush (kd6 rfl) (y := 8) (by decide) rfl ?_
  obtain ⟨g0, g3, g1, g2, h⟩ := h
  have h := h _ rfl
  refine r_anewarray (kd6 rfl) (by decide) g0 g3 g1 g2 rfl ?_
  obtain ⟨g, h⟩ := h
  have h := h _ rfl
  refine r_put2 (kd6 rfl) (by decide) rfl g rfl ?_
  refine r_iconst (kd6 rfl) (y := 0) (by decide) rfl ?_
  refine r_istore_n (kd6 rfl) L6 (by decide) rfl rfl ?_
  obtain ⟨n, h⟩ := h
  exact (b_Program_init_81 hd n _ _ _ _ _ h).less (e_sc (List.mem_of_getElem? (i := 1) rfl) (e_sc (List.mem_of_getElem? (i := 0) rfl) e_sn))
/-- TierMill$Program.methodAt(I)LTierMill$Shape; -/
theorem kd7 {pc : Nat} {q : eI} (h : e_d7.lookup pc = some q) : e_dec 7 pc = some q := h
theorem L7 : (e_m 7).2.2.1 = 2 := rfl
theorem R7 : (e_m 7).2.2.2.1 = (some (.object "TierMill$Shape")) := rfl
def w_Program_methodAt_19 (s0 : Int32) (s1 : Nat) (M : eM) (Q : Nat → eM → Prop) : Prop := (e_ar M s1 23 s0 ∨ e_ar M s1 24 s0) ∧ Q (gr M s1 s0.toNatClampNeg) M
theorem b_Program_methodAt_19 {d : Nat} {s0 : Int32} {s1 : Nat} {M : eM} {Q : Nat → eM → Prop} (hd : 0 ≤ d) (h : w_Program_methodAt_19 s0 s1 M Q ) : e_E 7 d 0 0 19 [] [.int s0, .ref s1] M (e_QR Q) := by
  unfold w_Program_methodAt_19 at h
  obtain ⟨g, h⟩ := h
  refine r_aaload (kd7 rfl) g rfl ?_
  exact r_areturn (kd7 rfl) R7 (by first | exact Or.inl ⟨_, rfl⟩ | exact Or.inr ⟨_, rfl⟩) h
def w_Program_methodAt_18 (s0 : Nat) (M : eM) (Q : Nat → eM → Prop) : Prop := w_Program_methodAt_19 0 s0 M Q
theorem b_Program_methodAt_18 {d : Nat} {s0 : Nat} {M : eM} {Q : Nat → eM → Prop} (hd : 0 ≤ d) (h : w_Program_methodAt_18 s0 M Q ) : e_E 7 d 0 0 18 [] [.ref s0] M (e_QR Q) := by
  unfold w_Program_methodAt_18 at h
  refine r_iconst (kd7 rfl) (y := 0) (by decide) rfl ?_
  exact (b_Program_methodAt_19 hd h).less e_sn
def w_Program_methodAt (l0 : Nat) (l1 : Int32) (M : eM) (Q : Nat → eM → Prop) : Prop := e_ob M l0 5 ∧ (l1 < 0 → w_Program_methodAt_18 (gr M l0 10) M Q) ∧ (¬ l1 < 0 → (16 ≤ l1 → w_Program_methodAt_18 (gr M l0 10) M Q) ∧ (¬ 16 ≤ l1 → w_Program_methodAt_19 l1 (gr M l0 10) M Q))
theorem b_Program_methodAt {d : Nat} {l0 : Nat} {l1 : Int32} {M : eM} {Q : Nat → eM → Prop} (hd : 0 ≤ d) (h : w_Program_methodAt l0 l1 M Q) : e_CR 7 d 0 0 [.ref l0, .int l1] M Q := by
  unfold w_Program_methodAt at h
  show e_E 7 d 0 0 0 [(0, .ref l0), (1, .int l1)] [] M (e_QR Q)
  refine r_aload_n (kd7 rfl) rfl rfl ?_
  obtain ⟨g, h⟩ := h
  refine r_get2 (kd7 rfl) (by decide) rfl g rfl ?_
  refine r_iload_n (kd7 rfl) rfl rfl ?_
  refine r_if_lt (kd7 rfl) rfl (fun c => ?_) (fun c => ?_)
  · have h := h.1 c
    exact (b_Program_methodAt_18 hd h).less e_sn
  · have h := h.2 c
    refine r_iload_n (kd7 rfl) rfl rfl ?_
    refine r_bipush (kd7 rfl) (y := 16) (by decide) rfl ?_
    refine r_icmp_ge (kd7 rfl) rfl (fun c => ?_) (fun c => ?_)
    · have h := h.1 c
      exact (b_Program_methodAt_18 hd h).less e_sn
    · have h := h.2 c
      refine r_iload_n (kd7 rfl) rfl rfl ?_
      refine r_goto (kd7 rfl) ?_
      exact (b_Program_methodAt_19 hd h).less e_sn
/-- TierMill$Reader.<init>(LTierMill$Program;)V -/
theorem kd8 {pc : Nat} {q : eI} (h : e_d8.lookup pc = some q) : e_dec 8 pc = some q := h
theorem L8 : (e_m 8).2.2.1 = 2 := rfl
theorem R8 : (e_m 8).2.2.2.1 = none := rfl
def w_Reader_init (l0 : Nat) (l1 : Nat) (M : eM) (Q : eM → Prop) : Prop := e_c0 ≤ l0 ∧ e_ob M l0 6 ∧ ∀ M1 : eM, M1 = e_sr M l0 0 l1 → Q M1
theorem b_Reader_init {d : Nat} {l0 : Nat} {l1 : Nat} {M : eM} {Q : eM → Prop} (hd : 0 ≤ d) (h : w_Reader_init l0 l1 M Q) : e_CV 8 d 0 0 [.ref l0, .ref l1] M Q := by
  unfold w_Reader_init at h
  show e_E 8 d 0 0 0 [(0, .ref l0), (1, .ref l1)] [] M (e_QV Q)
  refine r_aload_n (kd8 rfl) rfl rfl ?_
  obtain ⟨g, h⟩ := h
  refine r_objInit (kd8 rfl) g (Nat.le_of_ble_eq_true rfl) rfl ?_
  refine r_aload_n (kd8 rfl) rfl rfl ?_
  refine r_aload_n (kd8 rfl) rfl rfl ?_
  obtain ⟨g, h⟩ := h
  have h := h _ rfl
  refine r_put2 (kd8 rfl) (by decide) rfl g rfl ?_
  exact r_return (kd8 rfl) R8 h
/-- TierMill$Reader.take(II)I -/
theorem kd10 {pc : Nat} {q : eI} (h : e_d10.lookup pc = some q) : e_dec 10 pc = some q := h
theorem L10 : (e_m 10).2.2.1 = 4 := rfl
theorem R10 : (e_m 10).2.2.2.1 = (some .int) := rfl
set_option maxRecDepth 100000 in
def w_Reader_take (l0 : Nat) (l1 : Int32) (l2 : Int32) (M : eM) (Q : Int32 → eM → Prop) : Prop := e_ob M l0 6 ∧ ((gi M l0 2) = (-1) → e_ob M l0 6 ∧ e_ob M l0 6 ∧ e_ob M (gr M l0 0) 5 ∧ ((gi M l0 1) < (gi M (gr M l0 0) 1) → e_ob M l0 6 ∧ e_ob M (gr M l0 0) 5 ∧ e_ob M l0 6 ∧ False) ∧ (¬ (gi M l0 1) < (gi M (gr M l0 0) 1) → e_ob M l0 6 ∧ e_ob M (gr M l0 0) 5 ∧ e_ob M l0 6 ∧ ∀ M1 : eM, M1 = e_si M l0 2 (gi M (gr M l0 0) 1) → Q l1 M1)) ∧ (¬ (gi M l0 2) = (-1) → Q l1 M)
set_option maxRecDepth 100000 in
theorem b_Reader_take {d : Nat} {l0 : Nat} {l1 : Int32} {l2 : Int32} {M : eM} {Q : Int32 → eM → Prop} (hd : 0 ≤ d) (h : w_Reader_take l0 l1 l2 M Q) : e_CI 10 d 0 0 [.ref l0, .int l1, .int l2] M Q := by
  unfold w_Reader_take at h
  show e_E 10 d 0 0 0 [(0, .ref l0), (1, .int l1), (2, .int l2)] [] M (e_QI Q)
  refine r_aload_n (kd10 rfl) rfl rfl ?_
  obtain ⟨g, h⟩ := h
  refine r_get0 (kd10 rfl) (by decide) rfl g rfl ?_
  refine r_iconst (kd10 rfl) (y := (-1)) (by decide) rfl ?_
  refine r_icmp_eq (kd10 rfl) rfl (fun c => ?_) (fun c => ?_)
  · have h := h.1 c
    refine r_aload_n (kd10 rfl) rfl rfl ?_
    obtain ⟨g, h⟩ := h
    refine r_get0 (kd10 rfl) (by decide) rfl g rfl ?_
    refine r_aload_n (kd10 rfl) rfl rfl ?_
    obtain ⟨g, h⟩ := h
    refine r_get2 (kd10 rfl) (by decide) rfl g rfl ?_
    obtain ⟨g, h⟩ := h
    refine r_get0 (kd10 rfl) (by decide) rfl g rfl ?_
    refine r_icmp_lt (kd10 rfl) rfl (fun c => ?_) (fun c => ?_)
    · have h := h.1 c
      refine r_aload_n (kd10 rfl) rfl rfl ?_
      obtain ⟨g, h⟩ := h
      refine r_get2 (kd10 rfl) (by decide) rfl g rfl ?_
      obtain ⟨g, h⟩ := h
      refine r_get2 (kd10 rfl) (by decide) rfl g rfl ?_
      refine r_aload_n (kd10 rfl) rfl rfl ?_
      obtain ⟨g, h⟩ := h
      refine r_get0 (kd10 rfl) (by decide) rfl g rfl ?_
      exact False.elim h
    · have h := h.2 c
      refine r_aload_n (kd10 rfl) rfl rfl ?_
      refine r_aload_n (kd10 rfl) rfl rfl ?_
      obtain ⟨g, h⟩ := h
      refine r_get2 (kd10 rfl) (by decide) rfl g rfl ?_
      obtain ⟨g, h⟩ := h
      refine r_get0 (kd10 rfl) (by decide) rfl g rfl ?_
      obtain ⟨g, h⟩ := h
      have h := h _ rfl
      refine r_put0 (kd10 rfl) (by decide) rfl g rfl ?_
      refine r_iload_n (kd10 rfl) rfl rfl ?_
      exact r_ireturn (kd10 rfl) R10 h
  · have h := h.2 c
    refine r_iload_n (kd10 rfl) rfl rfl ?_
    exact r_ireturn (kd10 rfl) R10 h
/-- TierMill$Reader.takeType(I)I -/
theorem kd11 {pc : Nat} {q : eI} (h : e_d11.lookup pc = some q) : e_dec 11 pc = some q := h
theorem L11 : (e_m 11).2.2.1 = 3 := rfl
theorem R11 : (e_m 11).2.2.2.1 = (some .int) := rfl
def w_Reader_takeType_39 (l2 : Int32) (M : eM) (Q : Int32 → eM → Prop) : Prop := Q l2 M
theorem b_Reader_takeType_39 {d : Nat} {l2 : Int32} {M : eM} {Q : Int32 → eM → Prop} (hd : 1 ≤ d) (h : w_Reader_takeType_39 l2 M Q ) : e_E 11 d 0 0 39 [(2, .int l2)] [] M (e_QI Q) := by
  unfold w_Reader_takeType_39 at h
  refine r_iload_n (kd11 rfl) rfl rfl ?_
  exact r_ireturn (kd11 rfl) R11 h
def w_Reader_takeType (l0 : Nat) (l1 : Int32) (M : eM) (Q : Int32 → eM → Prop) : Prop := e_ob M l0 6 ∧ e_ob M (gr M l0 0) 5 ∧ e_ob M l0 6 ∧ w_Reader_take l0 l1 ((16 + (gi M (gr M l0 0) 2)) - 1) M (fun (v2 : Int32) (M1 : eM) => (v2 ≤ 2 → w_Reader_takeType_39 v2 M1 Q) ∧ (¬ v2 ≤ 2 → (16 ≤ v2 → w_Reader_takeType_39 v2 M1 Q) ∧ (¬ 16 ≤ v2 → e_ob M1 l0 6 ∧ e_ob M1 l0 6 ∧ ∀ M3 : eM, M3 = e_si M1 l0 2 ((gi M1 l0 1) - 1) → w_Reader_takeType_39 v2 M3 Q)))
theorem b_Reader_takeType {d : Nat} {l0 : Nat} {l1 : Int32} {M : eM} {Q : Int32 → eM → Prop} (hd : 1 ≤ d) (h : w_Reader_takeType l0 l1 M Q) : e_CI 11 d 0 0 [.ref l0, .int l1] M Q := by
  unfold w_Reader_takeType at h
  show e_E 11 d 0 0 0 [(0, .ref l0), (1, .int l1)] [] M (e_QI Q)
  refine r_aload_n (kd11 rfl) rfl rfl ?_
  refine r_iload_n (kd11 rfl) rfl rfl ?_
  refine r_bipush (kd11 rfl) (y := 16) (by decide) rfl ?_
  refine r_aload_n (kd11 rfl) rfl rfl ?_
  obtain ⟨g, h⟩ := h
  refine r_get2 (kd11 rfl) (by decide) rfl g rfl ?_
  obtain ⟨g, h⟩ := h
  refine r_get0 (kd11 rfl) (by decide) rfl g rfl ?_
  refine r_iadd (kd11 rfl) rfl ?_
  refine r_iconst (kd11 rfl) (y := 1) (by decide) rfl ?_
  refine r_isub (kd11 rfl) rfl ?_
  obtain ⟨g, h⟩ := h
  refine r_callVI (d' := d - 1) (by omega) (kd11 rfl) (by decide) rfl rfl rfl rfl (Nat.le_of_ble_eq_true rfl) rfl L10 (Nat.le_of_ble_eq_true rfl) (Nat.le_of_ble_eq_true rfl) g (Nat.zero_le _) (Nat.zero_le _) rfl rfl rfl (b_Reader_take (by omega) h) (fun x1 M1 h => ?_)
  refine r_istore_n (kd11 rfl) L11 (by decide) rfl rfl ?_
  refine r_iload_n (kd11 rfl) rfl rfl ?_
  refine r_iconst (kd11 rfl) (y := 2) (by decide) rfl ?_
  refine r_icmp_le (kd11 rfl) rfl (fun c => ?_) (fun c => ?_)
  · have h := h.1 c
    exact (b_Reader_takeType_39 hd h).less (e_sc (List.mem_of_getElem? (i := 0) rfl) e_sn)
  · have h := h.2 c
    refine r_iload_n (kd11 rfl) rfl rfl ?_
    refine r_bipush (kd11 rfl) (y := 16) (by decide) rfl ?_
    refine r_icmp_ge (kd11 rfl) rfl (fun c => ?_) (fun c => ?_)
    · have h := h.1 c
      exact (b_Reader_takeType_39 hd h).less (e_sc (List.mem_of_getElem? (i := 0) rfl) e_sn)
    · have h := h.2 c
      refine r_aload_n (kd11 rfl) rfl rfl ?_
      refine r_aload_n (kd11 rfl) rfl rfl ?_
      obtain ⟨g, h⟩ := h
      refine r_get0 (kd11 rfl) (by decide) rfl g rfl ?_
      refine r_iconst (kd11 rfl) (y := 1) (by decide) rfl ?_
      refine r_isub (kd11 rfl) rfl ?_
      obtain ⟨g, h⟩ := h
      have h := h _ rfl
      refine r_put0 (kd11 rfl) (by decide) rfl g rfl ?_
      exact (b_Reader_takeType_39 hd h).less (e_sc (List.mem_of_getElem? (i := 0) rfl) e_sn)
/-- TierMill$Reader.readClasses()V -/
theorem kd12 {pc : Nat} {q : eI} (h : e_d12.lookup pc = some q) : e_dec 12 pc = some q := h
theorem L12 : (e_m 12).2.2.1 = 6 := rfl
theorem R12 : (e_m 12).2.2.2.1 = none := rfl
set_option maxRecDepth 100000 in
def w_Reader_readClasses_166 : Nat → Nat → Int32 → Int32 → Int32 → eM → (eM → Prop) → (Nat → Int32 → eM → Prop) → Prop
  | 0, _, _, _, _, _, _, _ => False
  | n + 1, l0, l1, l4, l5, M, Q, k16 => (l4 ≤ l5 → e_ob M l0 6 ∧ e_ob M (gr M l0 0) 5 ∧ e_ob M (gr M (gr M l0 0) 5) 7 ∧ w_Row_set (gr M (gr M l0 0) 5) l1 l4 M (fun (M12 : eM) => k16 l0 (l1 + 1) M12)) ∧ (¬ l4 ≤ l5 → e_ob M l0 6 ∧ e_ob M (gr M l0 0) 5 ∧ e_ob M l0 6 ∧ w_Reader_takeType l0 1 M (fun (v14 : Int32) (M13 : eM) => e_ob M13 (gr M (gr M l0 0) 6) 7 ∧ w_Row_set (gr M (gr M l0 0) 6) ((l1 * 8) + l5) v14 M13 (fun (M15 : eM) => (fun l0 l1 l4 l5 M => w_Reader_readClasses_166 n l0 l1 l4 l5 M Q k16) l0 l1 l4 (l5 + 1) M15)))
set_option maxRecDepth 100000 in
theorem b_Reader_readClasses_166 {d : Nat} {Q : eM → Prop} {k16 : Nat → Int32 → eM → Prop} (hd : 2 ≤ d) (n : Nat) (hk16 : ∀ (l0 : Nat) (l1 : Int32) (M : eM), k16 l0 l1 M → e_E 12 d 0 0 16 [(0, .ref l0), (1, .int l1)] [] M (e_QV Q)) : ∀ (l0 : Nat) (l1 : Int32) (l4 : Int32) (l5 : Int32) (M : eM), w_Reader_readClasses_166 n l0 l1 l4 l5 M Q k16 → e_E 12 d 0 0 166 [(0, .ref l0), (1, .int l1), (4, .int l4), (5, .int l5)] [] M (e_QV Q) := by
  induction n with
  | zero => intro l0 l1 l4 l5 M h; exact False.elim h
  | succ n ih =>
    intro l0 l1 l4 l5 M h
    have hk166 := ih
    refine r_iload (kd12 rfl) rfl rfl ?_
    refine r_iload (kd12 rfl) rfl rfl ?_
    refine r_icmp_ge (kd12 rfl) rfl (fun c => ?_) (fun c => ?_)
    · have h := h.1 c
      refine r_aload_n (kd12 rfl) rfl rfl ?_
      obtain ⟨g, h⟩ := h
      refine r_get2 (kd12 rfl) (by decide) rfl g rfl ?_
      obtain ⟨g, h⟩ := h
      refine r_get2 (kd12 rfl) (by decide) rfl g rfl ?_
      refine r_iload_n (kd12 rfl) rfl rfl ?_
      refine r_iload (kd12 rfl) rfl rfl ?_
      obtain ⟨g, h⟩ := h
      refine r_callVV (d' := d - 1) (by omega) (kd12 rfl) (by decide) rfl rfl rfl rfl (Nat.le_of_ble_eq_true rfl) rfl L18 (Nat.le_of_ble_eq_true rfl) (Nat.le_of_ble_eq_true rfl) g (Nat.zero_le _) (Nat.zero_le _) rfl rfl rfl (b_Row_set (by omega) h) (fun M1 h => ?_)
      refine r_iinc (kd12 rfl) rfl (y := 1) (by decide) L12 (by decide) rfl rfl ?_
      refine r_goto (kd12 rfl) ?_
      exact (hk16 _ _ _ h).less (e_sc (List.mem_of_getElem? (i := 1) rfl) (e_sc (List.mem_of_getElem? (i := 0) rfl) e_sn))
    · have h := h.2 c
      refine r_aload_n (kd12 rfl) rfl rfl ?_
      obtain ⟨g, h⟩ := h
      refine r_get2 (kd12 rfl) (by decide) rfl g rfl ?_
      obtain ⟨g, h⟩ := h
      refine r_get2 (kd12 rfl) (by decide) rfl g rfl ?_
      refine r_iload_n (kd12 rfl) rfl rfl ?_
      refine r_bipush (kd12 rfl) (y := 8) (by decide) rfl ?_
      refine r_imul (kd12 rfl) rfl ?_
      refine r_iload (kd12 rfl) rfl rfl ?_
      refine r_iadd (kd12 rfl) rfl ?_
      refine r_aload_n (kd12 rfl) rfl rfl ?_
      refine r_iconst (kd12 rfl) (y := 1) (by decide) rfl ?_
      obtain ⟨g, h⟩ := h
      refine r_callVI (d' := d - 1) (by omega) (kd12 rfl) (by decide) rfl rfl rfl rfl (Nat.le_of_ble_eq_true rfl) rfl L11 (Nat.le_of_ble_eq_true rfl) (Nat.le_of_ble_eq_true rfl) g (Nat.zero_le _) (Nat.zero_le _) rfl rfl rfl (b_Reader_takeType (by omega) h) (fun x1 M1 h => ?_)
      obtain ⟨g, h⟩ := h
      refine r_callVV (d' := d - 1) (by omega) (kd12 rfl) (by decide) rfl rfl rfl rfl (Nat.le_of_ble_eq_true rfl) rfl L18 (Nat.le_of_ble_eq_true rfl) (Nat.le_of_ble_eq_true rfl) g (Nat.zero_le _) (Nat.zero_le _) rfl rfl rfl (b_Row_set (by omega) h) (fun M1 h => ?_)
      refine r_iinc (kd12 rfl) rfl (y := 1) (by decide) L12 (by decide) rfl rfl ?_
      refine r_goto (kd12 rfl) ?_
      exact (hk166 _ _ _ _ _ h).less (e_sc (List.mem_of_getElem? (i := 1) rfl) (e_sc (List.mem_of_getElem? (i := 2) rfl) (e_sc (List.mem_of_getElem? (i := 3) rfl) (e_sc (List.mem_of_getElem? (i := 0) rfl) e_sn))))
set_option maxRecDepth 100000 in
def w_Reader_readClasses_16 : Nat → Nat → Int32 → eM → (eM → Prop) → Prop
  | 0, _, _, _, _ => False
  | n + 1, l0, l1, M, Q => e_ob M l0 6 ∧ e_ob M (gr M l0 0) 5 ∧ ((gi M (gr M l0 0) 2) ≤ l1 → Q M) ∧ (¬ (gi M (gr M l0 0) 2) ≤ l1 → e_ob M l0 6 ∧ w_Reader_take l0 0 l1 M (fun (v6 : Int32) (M5 : eM) => (¬ (v6 - 1) = (-1) → e_ob M5 l0 6 ∧ e_ob M5 (gr M5 l0 0) 5 ∧ False) ∧ ((v6 - 1) = (-1) → e_ob M5 l0 6 ∧ e_ob M5 (gr M5 l0 0) 5 ∧ e_ob M5 (gr M5 (gr M5 l0 0) 3) 7 ∧ w_Row_set (gr M5 (gr M5 l0 0) 3) l1 (v6 - 1) M5 (fun (M7 : eM) => e_ob M7 l0 6 ∧ e_ob M7 (gr M7 l0 0) 5 ∧ (¬ (v6 - 1) = (-1) → e_ob M7 l0 6 ∧ e_ob M7 (gr M7 l0 0) 5 ∧ False) ∧ ((v6 - 1) = (-1) → e_ob M7 (gr M7 (gr M7 l0 0) 4) 7 ∧ w_Row_set (gr M7 (gr M7 l0 0) 4) l1 ((1 <<< (l1 &&& 31)) ||| 0) M7 (fun (M8 : eM) => (0 ≤ (0 : Int32) → e_ob M8 l0 6 ∧ w_Reader_take l0 0 (if (8 - 0) < 4 then (8 - 0) else 4) M8 (fun (v10 : Int32) (M9 : eM) => ∃ n11 : Nat, w_Reader_readClasses_166 n11 l0 l1 (0 + v10) 0 M9 Q (fun l0 l1 M => w_Reader_readClasses_16 n l0 l1 M Q ))) ∧ (¬ 0 ≤ (0 : Int32) → e_ob M8 l0 6 ∧ e_ob M8 (gr M8 l0 0) 5 ∧ e_ob M8 l0 6 ∧ False)))))))
set_option maxRecDepth 100000 in
theorem b_Reader_readClasses_16 {d : Nat} {Q : eM → Prop} (hd : 2 ≤ d) (n : Nat) : ∀ (l0 : Nat) (l1 : Int32) (M : eM), w_Reader_readClasses_16 n l0 l1 M Q → e_E 12 d 0 0 16 [(0, .ref l0), (1, .int l1)] [] M (e_QV Q) := by
  induction n with
  | zero => intro l0 l1 M h; exact False.elim h
  | succ n ih =>
    intro l0 l1 M h
    have hk16 := ih
    refine r_iload_n (kd12 rfl) rfl rfl ?_
    refine r_aload_n (kd12 rfl) rfl rfl ?_
    obtain ⟨g, h⟩ := h
    refine r_get2 (kd12 rfl) (by decide) rfl g rfl ?_
    obtain ⟨g, h⟩ := h
    refine r_get0 (kd12 rfl) (by decide) rfl g rfl ?_
    refine r_icmp_ge (kd12 rfl) rfl (fun c => ?_) (fun c => ?_)
    · have h := h.1 c
      exact r_return (kd12 rfl) R12 h
    · have h := h.2 c
      refine r_aload_n (kd12 rfl) rfl rfl ?_
      refine r_iconst (kd12 rfl) (y := 0) (by decide) rfl ?_
      refine r_iload_n (kd12 rfl) rfl rfl ?_
      obtain ⟨g, h⟩ := h
      refine r_callVI (d' := d - 1) (by omega) (kd12 rfl) (by decide) rfl rfl rfl rfl (Nat.le_of_ble_eq_true rfl) rfl L10 (Nat.le_of_ble_eq_true rfl) (Nat.le_of_ble_eq_true rfl) g (Nat.zero_le _) (Nat.zero_le _) rfl rfl rfl (b_Reader_take (by omega) h) (fun x1 M1 h => ?_)
      refine r_iconst (kd12 rfl) (y := 1) (by decide) rfl ?_
      refine r_isub (kd12 rfl) rfl ?_
      refine r_istore_n (kd12 rfl) L12 (by decide) rfl rfl ?_
      refine r_iload_n (kd12 rfl) rfl rfl ?_
      refine r_iconst (kd12 rfl) (y := (-1)) (by decide) rfl ?_
      refine r_icmp_ne (kd12 rfl) rfl (fun c => ?_) (fun c => ?_)
      · have h := h.1 c
        refine r_aload_n (kd12 rfl) rfl rfl ?_
        obtain ⟨g, h⟩ := h
        refine r_get2 (kd12 rfl) (by decide) rfl g rfl ?_
        obtain ⟨g, h⟩ := h
        refine r_get2 (kd12 rfl) (by decide) rfl g rfl ?_
        refine r_iload_n (kd12 rfl) rfl rfl ?_
        exact False.elim h
      · have h := h.2 c
        refine r_iconst (kd12 rfl) (y := 0) (by decide) rfl ?_
        refine r_goto (kd12 rfl) ?_
        refine r_istore_n (kd12 rfl) L12 (by decide) rfl rfl ?_
        refine r_aload_n (kd12 rfl) rfl rfl ?_
        obtain ⟨g, h⟩ := h
        refine r_get2 (kd12 rfl) (by decide) rfl g rfl ?_
        obtain ⟨g, h⟩ := h
        refine r_get2 (kd12 rfl) (by decide) rfl g rfl ?_
        refine r_iload_n (kd12 rfl) rfl rfl ?_
        refine r_iload_n (kd12 rfl) rfl rfl ?_
        obtain ⟨g, h⟩ := h
        refine r_callVV (d' := d - 1) (by omega) (kd12 rfl) (by decide) rfl rfl rfl rfl (Nat.le_of_ble_eq_true rfl) rfl L18 (Nat.le_of_ble_eq_true rfl) (Nat.le_of_ble_eq_true rfl) g (Nat.zero_le _) (Nat.zero_le _) rfl rfl rfl (b_Row_set (by omega) h) (fun M1 h => ?_)
        refine r_aload_n (kd12 rfl) rfl rfl ?_
        obtain ⟨g, h⟩ := h
        refine r_get2 (kd12 rfl) (by decide) rfl g rfl ?_
        obtain ⟨g, h⟩ := h
        refine r_get2 (kd12 rfl) (by decide) rfl g rfl ?_
        refine r_iload_n (kd12 rfl) rfl rfl ?_
        refine r_iconst (kd12 rfl) (y := 1) (by decide) rfl ?_
        refine r_iload_n (kd12 rfl) rfl rfl ?_
        refine r_ishl (kd12 rfl) rfl ?_
        refine r_iload_n (kd12 rfl) rfl rfl ?_
        refine r_iconst (kd12 rfl) (y := (-1)) (by decide) rfl ?_
        refine r_icmp_ne (kd12 rfl) rfl (fun c => ?_) (fun c => ?_)
        · have h := h.1 c
          refine r_aload_n (kd12 rfl) rfl rfl ?_
          obtain ⟨g, h⟩ := h
          refine r_get2 (kd12 rfl) (by decide) rfl g rfl ?_
          obtain ⟨g, h⟩ := h
          refine r_get2 (kd12 rfl) (by decide) rfl g rfl ?_
          refine r_iload_n (kd12 rfl) rfl rfl ?_
          exact False.elim h
        · have h := h.2 c
          refine r_iconst (kd12 rfl) (y := 0) (by decide) rfl ?_
          refine r_goto (kd12 rfl) ?_
          refine r_ior (kd12 rfl) rfl ?_
          obtain ⟨g, h⟩ := h
          refine r_callVV (d' := d - 1) (by omega) (kd12 rfl) (by decide) rfl rfl rfl rfl (Nat.le_of_ble_eq_true rfl) rfl L18 (Nat.le_of_ble_eq_true rfl) (Nat.le_of_ble_eq_true rfl) g (Nat.zero_le _) (Nat.zero_le _) rfl rfl rfl (b_Row_set (by omega) h) (fun M1 h => ?_)
          refine r_iconst (kd12 rfl) (y := 0) (by decide) rfl ?_
          refine r_istore (kd12 rfl) L12 (by decide) rfl rfl ?_
          refine r_iload (kd12 rfl) rfl rfl ?_
          refine r_iload_n (kd12 rfl) rfl rfl ?_
          refine r_icmp_ge (kd12 rfl) rfl (fun c => ?_) (fun c => ?_)
          · have h := h.1 c
            refine r_iload_n (kd12 rfl) rfl rfl ?_
            refine r_aload_n (kd12 rfl) rfl rfl ?_
            refine r_iconst (kd12 rfl) (y := 0) (by decide) rfl ?_
            refine r_iconst (kd12 rfl) (y := 4) (by decide) rfl ?_
            refine r_bipush (kd12 rfl) (y := 8) (by decide) rfl ?_
            refine r_iload_n (kd12 rfl) rfl rfl ?_
            refine r_isub (kd12 rfl) rfl ?_
            refine r_mmin (kd12 rfl) (Nat.le_of_ble_eq_true rfl) rfl ?_
            obtain ⟨g, h⟩ := h
            refine r_callVI (d' := d - 1) (by omega) (kd12 rfl) (by decide) rfl rfl rfl rfl (Nat.le_of_ble_eq_true rfl) rfl L10 (Nat.le_of_ble_eq_true rfl) (Nat.le_of_ble_eq_true rfl) g (Nat.zero_le _) (Nat.zero_le _) rfl rfl rfl (b_Reader_take (by omega) h) (fun x1 M1 h => ?_)
            refine r_iadd (kd12 rfl) rfl ?_
            refine r_istore (kd12 rfl) L12 (by decide) rfl rfl ?_
            refine r_iload_n (kd12 rfl) rfl rfl ?_
            refine r_istore (kd12 rfl) L12 (by decide) rfl rfl ?_
            obtain ⟨n, h⟩ := h
            exact (b_Reader_readClasses_166 hd n hk16 _ _ _ _ _ h).less (e_sc (List.mem_of_getElem? (i := 4) rfl) (e_sc (List.mem_of_getElem? (i := 5) rfl) (e_sc (List.mem_of_getElem? (i := 1) rfl) (e_sc (List.mem_of_getElem? (i := 0) rfl) e_sn))))
          · have h := h.2 c
            refine r_aload_n (kd12 rfl) rfl rfl ?_
            obtain ⟨g, h⟩ := h
            refine r_get2 (kd12 rfl) (by decide) rfl g rfl ?_
            obtain ⟨g, h⟩ := h
            refine r_get2 (kd12 rfl) (by decide) rfl g rfl ?_
            refine r_iload_n (kd12 rfl) rfl rfl ?_
            refine r_bipush (kd12 rfl) (y := 8) (by decide) rfl ?_
            refine r_imul (kd12 rfl) rfl ?_
            refine r_iload (kd12 rfl) rfl rfl ?_
            refine r_iadd (kd12 rfl) rfl ?_
            refine r_aload_n (kd12 rfl) rfl rfl ?_
            obtain ⟨g, h⟩ := h
            refine r_get2 (kd12 rfl) (by decide) rfl g rfl ?_
            refine r_iload_n (kd12 rfl) rfl rfl ?_
            refine r_iload (kd12 rfl) rfl rfl ?_
            exact False.elim h
set_option maxRecDepth 100000 in
def w_Reader_readClasses (l0 : Nat) (M : eM) (Q : eM → Prop) : Prop := e_ob M l0 6 ∧ e_ob M l0 6 ∧ w_Reader_take l0 0 8 M (fun (v2 : Int32) (M1 : eM) => e_ob M1 (gr M l0 0) 5 ∧ ∀ M3 : eM, M3 = e_si M1 (gr M l0 0) 2 v2 → ∃ n4 : Nat, w_Reader_readClasses_16 n4 l0 0 M3 Q)
set_option maxRecDepth 100000 in
theorem b_Reader_readClasses {d : Nat} {l0 : Nat} {M : eM} {Q : eM → Prop} (hd : 2 ≤ d) (h : w_Reader_readClasses l0 M Q) : e_CV 12 d 0 0 [.ref l0] M Q := by
  unfold w_Reader_readClasses at h
  show e_E 12 d 0 0 0 [(0, .ref l0)] [] M (e_QV Q)
  refine r_aload_n (kd12 rfl) rfl rfl ?_
  obtain ⟨g, h⟩ := h
  refine r_get2 (kd12 rfl) (by decide) rfl g rfl ?_
  refine r_aload_n (kd12 rfl) rfl rfl ?_
  refine r_iconst (kd12 rfl) (y := 0) (by decide) rfl ?_
  refine r_bipush (kd12 rfl) (y := 8) (by decide) rfl ?_
  obtain ⟨g, h⟩ := h
  refine r_callVI (d' := d - 1) (by omega) (kd12 rfl) (by decide) rfl rfl rfl rfl (Nat.le_of_ble_eq_true rfl) rfl L10 (Nat.le_of_ble_eq_true rfl) (Nat.le_of_ble_eq_true rfl) g (Nat.zero_le _) (Nat.zero_le _) rfl rfl rfl (b_Reader_take (by omega) h) (fun x1 M1 h => ?_)
  obtain ⟨g, h⟩ := h
  have h := h _ rfl
  refine r_put0 (kd12 rfl) (by decide) rfl g rfl ?_
  refine r_iconst (kd12 rfl) (y := 0) (by decide) rfl ?_
  refine r_istore_n (kd12 rfl) L12 (by decide) rfl rfl ?_
  obtain ⟨n, h⟩ := h
  exact (b_Reader_readClasses_16 hd n _ _ _ h).less (e_sc (List.mem_of_getElem? (i := 1) rfl) (e_sc (List.mem_of_getElem? (i := 0) rfl) e_sn))
/-- TierMill$Reader.readSelectors()V -/
theorem kd13 {pc : Nat} {q : eI} (h : e_d13.lookup pc = some q) : e_dec 13 pc = some q := h
theorem L13 : (e_m 13).2.2.1 = 2 := rfl
theorem R13 : (e_m 13).2.2.2.1 = none := rfl
def w_Reader_readSelectors (l0 : Nat) (M : eM) (Q : eM → Prop) : Prop := e_ob M l0 6 ∧ e_ob M l0 6 ∧ w_Reader_take l0 0 8 M (fun (v2 : Int32) (M1 : eM) => e_ob M1 (gr M l0 0) 5 ∧ ∀ M3 : eM, M3 = e_si M1 (gr M l0 0) 7 v2 → e_ob M3 l0 6 ∧ e_ob M3 (gr M3 l0 0) 5 ∧ ((gi M3 (gr M3 l0 0) 7) ≤ 0 → Q M3) ∧ (¬ (gi M3 (gr M3 l0 0) 7) ≤ 0 → e_ob M3 l0 6 ∧ False))
theorem b_Reader_readSelectors {d : Nat} {l0 : Nat} {M : eM} {Q : eM → Prop} (hd : 1 ≤ d) (h : w_Reader_readSelectors l0 M Q) : e_CV 13 d 0 0 [.ref l0] M Q := by
  unfold w_Reader_readSelectors at h
  show e_E 13 d 0 0 0 [(0, .ref l0)] [] M (e_QV Q)
  refine r_aload_n (kd13 rfl) rfl rfl ?_
  obtain ⟨g, h⟩ := h
  refine r_get2 (kd13 rfl) (by decide) rfl g rfl ?_
  refine r_aload_n (kd13 rfl) rfl rfl ?_
  refine r_iconst (kd13 rfl) (y := 0) (by decide) rfl ?_
  refine r_bipush (kd13 rfl) (y := 8) (by decide) rfl ?_
  obtain ⟨g, h⟩ := h
  refine r_callVI (d' := d - 1) (by omega) (kd13 rfl) (by decide) rfl rfl rfl rfl (Nat.le_of_ble_eq_true rfl) rfl L10 (Nat.le_of_ble_eq_true rfl) (Nat.le_of_ble_eq_true rfl) g (Nat.zero_le _) (Nat.zero_le _) rfl rfl rfl (b_Reader_take (by omega) h) (fun x1 M1 h => ?_)
  obtain ⟨g, h⟩ := h
  have h := h _ rfl
  refine r_put0 (kd13 rfl) (by decide) rfl g rfl ?_
  refine r_iconst (kd13 rfl) (y := 0) (by decide) rfl ?_
  refine r_istore_n (kd13 rfl) L13 (by decide) rfl rfl ?_
  refine r_iload_n (kd13 rfl) rfl rfl ?_
  refine r_aload_n (kd13 rfl) rfl rfl ?_
  obtain ⟨g, h⟩ := h
  refine r_get2 (kd13 rfl) (by decide) rfl g rfl ?_
  obtain ⟨g, h⟩ := h
  refine r_get0 (kd13 rfl) (by decide) rfl g rfl ?_
  refine r_icmp_ge (kd13 rfl) rfl (fun c => ?_) (fun c => ?_)
  · have h := h.1 c
    exact r_return (kd13 rfl) R13 h
  · have h := h.2 c
    refine r_aload_n (kd13 rfl) rfl rfl ?_
    refine r_aload_n (kd13 rfl) rfl rfl ?_
    obtain ⟨g, h⟩ := h
    refine r_get2 (kd13 rfl) (by decide) rfl g rfl ?_
    refine r_iload_n (kd13 rfl) rfl rfl ?_
    exact False.elim h
/-- TierMill$Reader.readShape(LTierMill$Shape;I)V -/
theorem kd14 {pc : Nat} {q : eI} (h : e_d14.lookup pc = some q) : e_dec 14 pc = some q := h
theorem L14 : (e_m 14).2.2.1 = 4 := rfl
theorem R14 : (e_m 14).2.2.2.1 = none := rfl
set_option maxRecDepth 100000 in
def w_Reader_readShape_12 : Nat → Nat → Nat → Int32 → eM → (eM → Prop) → Prop
  | 0, _, _, _, _, _ => False
  | n + 1, l0, l1, l3, M, Q => e_ob M l1 8 ∧ ((gi M l1 1) ≤ l3 → e_ob M l0 6 ∧ w_Reader_takeType l0 0 M (fun (v6 : Int32) (M5 : eM) => e_ob M5 l1 8 ∧ ∀ M7 : eM, M7 = e_si M5 l1 2 v6 → Q M7)) ∧ (¬ (gi M l1 1) ≤ l3 → e_ob M l1 8 ∧ e_ob M l0 6 ∧ w_Reader_takeType l0 1 M (fun (v9 : Int32) (M8 : eM) => e_ob M8 (gr M l1 0) 7 ∧ w_Row_set (gr M l1 0) l3 v9 M8 (fun (M10 : eM) => (fun l0 l1 l3 M => w_Reader_readShape_12 n l0 l1 l3 M Q ) l0 l1 (l3 + 1) M10)))
set_option maxRecDepth 100000 in
theorem b_Reader_readShape_12 {d : Nat} {Q : eM → Prop} (hd : 2 ≤ d) (n : Nat) : ∀ (l0 : Nat) (l1 : Nat) (l3 : Int32) (M : eM), w_Reader_readShape_12 n l0 l1 l3 M Q → e_E 14 d 0 0 12 [(0, .ref l0), (1, .ref l1), (3, .int l3)] [] M (e_QV Q) := by
  induction n with
  | zero => intro l0 l1 l3 M h; exact False.elim h
  | succ n ih =>
    intro l0 l1 l3 M h
    have hk12 := ih
    refine r_iload_n (kd14 rfl) rfl rfl ?_
    refine r_aload_n (kd14 rfl) rfl rfl ?_
    obtain ⟨g, h⟩ := h
    refine r_get0 (kd14 rfl) (by decide) rfl g rfl ?_
    refine r_icmp_ge (kd14 rfl) rfl (fun c => ?_) (fun c => ?_)
    · have h := h.1 c
      refine r_aload_n (kd14 rfl) rfl rfl ?_
      refine r_aload_n (kd14 rfl) rfl rfl ?_
      refine r_iconst (kd14 rfl) (y := 0) (by decide) rfl ?_
      obtain ⟨g, h⟩ := h
      refine r_callVI (d' := d - 1) (by omega) (kd14 rfl) (by decide) rfl rfl rfl rfl (Nat.le_of_ble_eq_true rfl) rfl L11 (Nat.le_of_ble_eq_true rfl) (Nat.le_of_ble_eq_true rfl) g (Nat.zero_le _) (Nat.zero_le _) rfl rfl rfl (b_Reader_takeType (by omega) h) (fun x1 M1 h => ?_)
      obtain ⟨g, h⟩ := h
      have h := h _ rfl
      refine r_put0 (kd14 rfl) (by decide) rfl g rfl ?_
      exact r_return (kd14 rfl) R14 h
    · have h := h.2 c
      refine r_aload_n (kd14 rfl) rfl rfl ?_
      obtain ⟨g, h⟩ := h
      refine r_get2 (kd14 rfl) (by decide) rfl g rfl ?_
      refine r_iload_n (kd14 rfl) rfl rfl ?_
      refine r_aload_n (kd14 rfl) rfl rfl ?_
      refine r_iconst (kd14 rfl) (y := 1) (by decide) rfl ?_
      obtain ⟨g, h⟩ := h
      refine r_callVI (d' := d - 1) (by omega) (kd14 rfl) (by decide) rfl rfl rfl rfl (Nat.le_of_ble_eq_true rfl) rfl L11 (Nat.le_of_ble_eq_true rfl) (Nat.le_of_ble_eq_true rfl) g (Nat.zero_le _) (Nat.zero_le _) rfl rfl rfl (b_Reader_takeType (by omega) h) (fun x1 M1 h => ?_)
      obtain ⟨g, h⟩ := h
      refine r_callVV (d' := d - 1) (by omega) (kd14 rfl) (by decide) rfl rfl rfl rfl (Nat.le_of_ble_eq_true rfl) rfl L18 (Nat.le_of_ble_eq_true rfl) (Nat.le_of_ble_eq_true rfl) g (Nat.zero_le _) (Nat.zero_le _) rfl rfl rfl (b_Row_set (by omega) h) (fun M1 h => ?_)
      refine r_iinc (kd14 rfl) rfl (y := 1) (by decide) L14 (by decide) rfl rfl ?_
      refine r_goto (kd14 rfl) ?_
      exact (hk12 _ _ _ _ h).less (e_sc (List.mem_of_getElem? (i := 1) rfl) (e_sc (List.mem_of_getElem? (i := 2) rfl) (e_sc (List.mem_of_getElem? (i := 0) rfl) e_sn)))
set_option maxRecDepth 100000 in
def w_Reader_readShape (l0 : Nat) (l1 : Nat) (l2 : Int32) (M : eM) (Q : eM → Prop) : Prop := e_ob M l0 6 ∧ w_Reader_take l0 0 l2 M (fun (v2 : Int32) (M1 : eM) => e_ob M1 l1 8 ∧ ∀ M3 : eM, M3 = e_si M1 l1 1 v2 → ∃ n4 : Nat, w_Reader_readShape_12 n4 l0 l1 0 M3 Q)
set_option maxRecDepth 100000 in
theorem b_Reader_readShape {d : Nat} {l0 : Nat} {l1 : Nat} {l2 : Int32} {M : eM} {Q : eM → Prop} (hd : 2 ≤ d) (h : w_Reader_readShape l0 l1 l2 M Q) : e_CV 14 d 0 0 [.ref l0, .ref l1, .int l2] M Q := by
  unfold w_Reader_readShape at h
  show e_E 14 d 0 0 0 [(0, .ref l0), (1, .ref l1), (2, .int l2)] [] M (e_QV Q)
  refine r_aload_n (kd14 rfl) rfl rfl ?_
  refine r_aload_n (kd14 rfl) rfl rfl ?_
  refine r_iconst (kd14 rfl) (y := 0) (by decide) rfl ?_
  refine r_iload_n (kd14 rfl) rfl rfl ?_
  obtain ⟨g, h⟩ := h
  refine r_callVI (d' := d - 1) (by omega) (kd14 rfl) (by decide) rfl rfl rfl rfl (Nat.le_of_ble_eq_true rfl) rfl L10 (Nat.le_of_ble_eq_true rfl) (Nat.le_of_ble_eq_true rfl) g (Nat.zero_le _) (Nat.zero_le _) rfl rfl rfl (b_Reader_take (by omega) h) (fun x1 M1 h => ?_)
  obtain ⟨g, h⟩ := h
  have h := h _ rfl
  refine r_put0 (kd14 rfl) (by decide) rfl g rfl ?_
  refine r_iconst (kd14 rfl) (y := 0) (by decide) rfl ?_
  refine r_istore_n (kd14 rfl) L14 (by decide) rfl rfl ?_
  obtain ⟨n, h⟩ := h
  exact (b_Reader_readShape_12 hd n _ _ _ _ h).less (e_sc (List.mem_of_getElem? (i := 1) rfl) (e_sc (List.mem_of_getElem? (i := 2) rfl) (e_sc (List.mem_of_getElem? (i := 0) rfl) e_sn)))
/-- TierMill$Reader.readMethods()V -/
theorem kd15 {pc : Nat} {q : eI} (h : e_d15.lookup pc = some q) : e_dec 15 pc = some q := h
theorem L15 : (e_m 15).2.2.1 = 3 := rfl
theorem R15 : (e_m 15).2.2.2.1 = none := rfl
set_option maxRecDepth 100000 in
def w_Reader_readMethods_124 (l0 : Nat) (l1 : Int32) (l2 : Nat) (M : eM) (Q : eM → Prop) (k16 : Nat → Int32 → eM → Prop) : Prop := e_ob M l0 6 ∧ e_ob M l2 8 ∧ e_ob M l0 6 ∧ ∀ M19 : eM, M19 = e_si M l0 1 ((gi M l0 1) + (gi M l2 6)) → k16 l0 (l1 + 1) M19
set_option maxRecDepth 100000 in
theorem b_Reader_readMethods_124 {d : Nat} {l0 : Nat} {l1 : Int32} {l2 : Nat} {M : eM} {Q : eM → Prop} {k16 : Nat → Int32 → eM → Prop} (hd : 3 ≤ d) (hk16 : ∀ (l0 : Nat) (l1 : Int32) (M : eM), k16 l0 l1 M → e_E 15 d 0 0 16 [(0, .ref l0), (1, .int l1)] [] M (e_QV Q)) (h : w_Reader_readMethods_124 l0 l1 l2 M Q k16) : e_E 15 d 0 0 124 [(0, .ref l0), (1, .int l1), (2, .ref l2)] [] M (e_QV Q) := by
  unfold w_Reader_readMethods_124 at h
  refine r_aload_n (kd15 rfl) rfl rfl ?_
  refine r_dup (kd15 rfl) rfl rfl ?_
  obtain ⟨g, h⟩ := h
  refine r_get0 (kd15 rfl) (by decide) rfl g rfl ?_
  refine r_aload_n (kd15 rfl) rfl rfl ?_
  obtain ⟨g, h⟩ := h
  refine r_get0 (kd15 rfl) (by decide) rfl g rfl ?_
  refine r_iadd (kd15 rfl) rfl ?_
  obtain ⟨g, h⟩ := h
  have h := h _ rfl
  refine r_put0 (kd15 rfl) (by decide) rfl g rfl ?_
  refine r_iinc (kd15 rfl) rfl (y := 1) (by decide) L15 (by decide) rfl rfl ?_
  refine r_goto (kd15 rfl) ?_
  exact (hk16 _ _ _ h).less (e_sc (List.mem_of_getElem? (i := 1) rfl) (e_sc (List.mem_of_getElem? (i := 0) rfl) e_sn))
set_option maxRecDepth 100000 in
def w_Reader_readMethods_16 : Nat → Nat → Int32 → eM → (eM → Prop) → Prop
  | 0, _, _, _, _ => False
  | n + 1, l0, l1, M, Q => e_ob M l0 6 ∧ e_ob M (gr M l0 0) 5 ∧ ((gi M (gr M l0 0) 9) ≤ l1 → Q M) ∧ (¬ (gi M (gr M l0 0) 9) ≤ l1 → e_ob M l0 6 ∧ e_ob M (gr M l0 0) 5 ∧ w_Program_methodAt (gr M l0 0) l1 M (fun (v6 : Nat) (M5 : eM) => e_ob M5 l0 6 ∧ w_Reader_readShape l0 v6 4 M5 (fun (M7 : eM) => e_ob M7 v6 8 ∧ e_ob M7 l0 6 ∧ w_Reader_take l0 (gi M7 v6 1) 8 M7 (fun (v9 : Int32) (M8 : eM) => e_ob M8 v6 8 ∧ ∀ M10 : eM, M10 = e_si M8 v6 3 v9 → e_ob M10 l0 6 ∧ w_Reader_take l0 0 8 M10 (fun (v12 : Int32) (M11 : eM) => e_ob M11 v6 8 ∧ ∀ M13 : eM, M13 = e_si M11 v6 4 v12 → e_ob M13 l0 6 ∧ w_Reader_take l0 1 120 M13 (fun (v15 : Int32) (M14 : eM) => e_ob M14 v6 8 ∧ ∀ M16 : eM, M16 = e_si M14 v6 6 v15 → e_ob M16 l0 6 ∧ e_ob M16 v6 8 ∧ ∀ M17 : eM, M17 = e_si M16 v6 5 (gi M16 l0 1) → e_ob M17 l0 6 ∧ (¬ (gi M17 l0 2) = (-1) → w_Reader_readMethods_124 l0 l1 v6 M17 Q (fun l0 l1 M => w_Reader_readMethods_16 n l0 l1 M Q )) ∧ ((gi M17 l0 2) = (-1) → e_ob M17 l0 6 ∧ e_ob M17 v6 8 ∧ e_ob M17 l0 6 ∧ e_ob M17 (gr M17 l0 0) 5 ∧ (((gi M17 l0 1) + (gi M17 v6 6)) ≤ (gi M17 (gr M17 l0 0) 1) → w_Reader_readMethods_124 l0 l1 v6 M17 Q (fun l0 l1 M => w_Reader_readMethods_16 n l0 l1 M Q )) ∧ (¬ ((gi M17 l0 1) + (gi M17 v6 6)) ≤ (gi M17 (gr M17 l0 0) 1) → e_ob M17 l0 6 ∧ e_ob M17 (gr M17 l0 0) 5 ∧ e_ob M17 l0 6 ∧ ∀ M18 : eM, M18 = e_si M17 l0 2 (gi M17 (gr M17 l0 0) 1) → w_Reader_readMethods_124 l0 l1 v6 M18 Q (fun l0 l1 M => w_Reader_readMethods_16 n l0 l1 M Q )))))))))
set_option maxRecDepth 100000 in
theorem b_Reader_readMethods_16 {d : Nat} {Q : eM → Prop} (hd : 3 ≤ d) (n : Nat) : ∀ (l0 : Nat) (l1 : Int32) (M : eM), w_Reader_readMethods_16 n l0 l1 M Q → e_E 15 d 0 0 16 [(0, .ref l0), (1, .int l1)] [] M (e_QV Q) := by
  induction n with
  | zero => intro l0 l1 M h; exact False.elim h
  | succ n ih =>
    intro l0 l1 M h
    have hk16 := ih
    refine r_iload_n (kd15 rfl) rfl rfl ?_
    refine r_aload_n (kd15 rfl) rfl rfl ?_
    obtain ⟨g, h⟩ := h
    refine r_get2 (kd15 rfl) (by decide) rfl g rfl ?_
    obtain ⟨g, h⟩ := h
    refine r_get0 (kd15 rfl) (by decide) rfl g rfl ?_
    refine r_icmp_ge (kd15 rfl) rfl (fun c => ?_) (fun c => ?_)
    · have h := h.1 c
      exact r_return (kd15 rfl) R15 h
    · have h := h.2 c
      refine r_aload_n (kd15 rfl) rfl rfl ?_
      obtain ⟨g, h⟩ := h
      refine r_get2 (kd15 rfl) (by decide) rfl g rfl ?_
      refine r_iload_n (kd15 rfl) rfl rfl ?_
      obtain ⟨g, h⟩ := h
      refine r_callVR (d' := d - 1) (by omega) (kd15 rfl) (by decide) rfl rfl rfl rfl (Nat.le_of_ble_eq_true rfl) rfl L7 (Nat.le_of_ble_eq_true rfl) (Nat.le_of_ble_eq_true rfl) g (Nat.zero_le _) (Nat.zero_le _) rfl rfl rfl (b_Program_methodAt (by omega) h) (fun x1 M1 h => ?_)
      refine r_astore_n (kd15 rfl) L15 (by decide) rfl rfl ?_
      refine r_aload_n (kd15 rfl) rfl rfl ?_
      refine r_aload_n (kd15 rfl) rfl rfl ?_
      refine r_iconst (kd15 rfl) (y := 4) (by decide) rfl ?_
      obtain ⟨g, h⟩ := h
      refine r_callVV (d' := d - 1) (by omega) (kd15 rfl) (by decide) rfl rfl rfl rfl (Nat.le_of_ble_eq_true rfl) rfl L14 (Nat.le_of_ble_eq_true rfl) (Nat.le_of_ble_eq_true rfl) g (Nat.zero_le _) (Nat.zero_le _) rfl rfl rfl (b_Reader_readShape (by omega) h) (fun M1 h => ?_)
      refine r_aload_n (kd15 rfl) rfl rfl ?_
      refine r_aload_n (kd15 rfl) rfl rfl ?_
      refine r_aload_n (kd15 rfl) rfl rfl ?_
      obtain ⟨g, h⟩ := h
      refine r_get0 (kd15 rfl) (by decide) rfl g rfl ?_
      refine r_bipush (kd15 rfl) (y := 8) (by decide) rfl ?_
      obtain ⟨g, h⟩ := h
      refine r_callVI (d' := d - 1) (by omega) (kd15 rfl) (by decide) rfl rfl rfl rfl (Nat.le_of_ble_eq_true rfl) rfl L10 (Nat.le_of_ble_eq_true rfl) (Nat.le_of_ble_eq_true rfl) g (Nat.zero_le _) (Nat.zero_le _) rfl rfl rfl (b_Reader_take (by omega) h) (fun x1 M1 h => ?_)
      obtain ⟨g, h⟩ := h
      have h := h _ rfl
      refine r_put0 (kd15 rfl) (by decide) rfl g rfl ?_
      refine r_aload_n (kd15 rfl) rfl rfl ?_
      refine r_aload_n (kd15 rfl) rfl rfl ?_
      refine r_iconst (kd15 rfl) (y := 0) (by decide) rfl ?_
      refine r_bipush (kd15 rfl) (y := 8) (by decide) rfl ?_
      obtain ⟨g, h⟩ := h
      refine r_callVI (d' := d - 1) (by omega) (kd15 rfl) (by decide) rfl rfl rfl rfl (Nat.le_of_ble_eq_true rfl) rfl L10 (Nat.le_of_ble_eq_true rfl) (Nat.le_of_ble_eq_true rfl) g (Nat.zero_le _) (Nat.zero_le _) rfl rfl rfl (b_Reader_take (by omega) h) (fun x1 M1 h => ?_)
      obtain ⟨g, h⟩ := h
      have h := h _ rfl
      refine r_put0 (kd15 rfl) (by decide) rfl g rfl ?_
      refine r_aload_n (kd15 rfl) rfl rfl ?_
      refine r_aload_n (kd15 rfl) rfl rfl ?_
      refine r_iconst (kd15 rfl) (y := 1) (by decide) rfl ?_
      refine r_bipush (kd15 rfl) (y := 120) (by decide) rfl ?_
      obtain ⟨g, h⟩ := h
      refine r_callVI (d' := d - 1) (by omega) (kd15 rfl) (by decide) rfl rfl rfl rfl (Nat.le_of_ble_eq_true rfl) rfl L10 (Nat.le_of_ble_eq_true rfl) (Nat.le_of_ble_eq_true rfl) g (Nat.zero_le _) (Nat.zero_le _) rfl rfl rfl (b_Reader_take (by omega) h) (fun x1 M1 h => ?_)
      obtain ⟨g, h⟩ := h
      have h := h _ rfl
      refine r_put0 (kd15 rfl) (by decide) rfl g rfl ?_
      refine r_aload_n (kd15 rfl) rfl rfl ?_
      refine r_aload_n (kd15 rfl) rfl rfl ?_
      obtain ⟨g, h⟩ := h
      refine r_get0 (kd15 rfl) (by decide) rfl g rfl ?_
      obtain ⟨g, h⟩ := h
      have h := h _ rfl
      refine r_put0 (kd15 rfl) (by decide) rfl g rfl ?_
      refine r_aload_n (kd15 rfl) rfl rfl ?_
      obtain ⟨g, h⟩ := h
      refine r_get0 (kd15 rfl) (by decide) rfl g rfl ?_
      refine r_iconst (kd15 rfl) (y := (-1)) (by decide) rfl ?_
      refine r_icmp_ne (kd15 rfl) rfl (fun c => ?_) (fun c => ?_)
      · have h := h.1 c
        exact (b_Reader_readMethods_124 hd hk16 h).less (e_sc (List.mem_of_getElem? (i := 1) rfl) (e_sc (List.mem_of_getElem? (i := 2) rfl) (e_sc (List.mem_of_getElem? (i := 0) rfl) e_sn)))
      · have h := h.2 c
        refine r_aload_n (kd15 rfl) rfl rfl ?_
        obtain ⟨g, h⟩ := h
        refine r_get0 (kd15 rfl) (by decide) rfl g rfl ?_
        refine r_aload_n (kd15 rfl) rfl rfl ?_
        obtain ⟨g, h⟩ := h
        refine r_get0 (kd15 rfl) (by decide) rfl g rfl ?_
        refine r_iadd (kd15 rfl) rfl ?_
        refine r_aload_n (kd15 rfl) rfl rfl ?_
        obtain ⟨g, h⟩ := h
        refine r_get2 (kd15 rfl) (by decide) rfl g rfl ?_
        obtain ⟨g, h⟩ := h
        refine r_get0 (kd15 rfl) (by decide) rfl g rfl ?_
        refine r_icmp_le (kd15 rfl) rfl (fun c => ?_) (fun c => ?_)
        · have h := h.1 c
          exact (b_Reader_readMethods_124 hd hk16 h).less (e_sc (List.mem_of_getElem? (i := 1) rfl) (e_sc (List.mem_of_getElem? (i := 2) rfl) (e_sc (List.mem_of_getElem? (i := 0) rfl) e_sn)))
        · have h := h.2 c
          refine r_aload_n (kd15 rfl) rfl rfl ?_
          refine r_aload_n (kd15 rfl) rfl rfl ?_
          obtain ⟨g, h⟩ := h
          refine r_get2 (kd15 rfl) (by decide) rfl g rfl ?_
          obtain ⟨g, h⟩ := h
          refine r_get0 (kd15 rfl) (by decide) rfl g rfl ?_
          obtain ⟨g, h⟩ := h
          have h := h _ rfl
          refine r_put0 (kd15 rfl) (by decide) rfl g rfl ?_
          exact (b_Reader_readMethods_124 hd hk16 h).less (e_sc (List.mem_of_getElem? (i := 1) rfl) (e_sc (List.mem_of_getElem? (i := 2) rfl) (e_sc (List.mem_of_getElem? (i := 0) rfl) e_sn)))
set_option maxRecDepth 100000 in
def w_Reader_readMethods (l0 : Nat) (M : eM) (Q : eM → Prop) : Prop := e_ob M l0 6 ∧ e_ob M l0 6 ∧ w_Reader_take l0 1 16 M (fun (v2 : Int32) (M1 : eM) => e_ob M1 (gr M l0 0) 5 ∧ ∀ M3 : eM, M3 = e_si M1 (gr M l0 0) 9 v2 → ∃ n4 : Nat, w_Reader_readMethods_16 n4 l0 0 M3 Q)
set_option maxRecDepth 100000 in
theorem b_Reader_readMethods {d : Nat} {l0 : Nat} {M : eM} {Q : eM → Prop} (hd : 3 ≤ d) (h : w_Reader_readMethods l0 M Q) : e_CV 15 d 0 0 [.ref l0] M Q := by
  unfold w_Reader_readMethods at h
  show e_E 15 d 0 0 0 [(0, .ref l0)] [] M (e_QV Q)
  refine r_aload_n (kd15 rfl) rfl rfl ?_
  obtain ⟨g, h⟩ := h
  refine r_get2 (kd15 rfl) (by decide) rfl g rfl ?_
  refine r_aload_n (kd15 rfl) rfl rfl ?_
  refine r_iconst (kd15 rfl) (y := 1) (by decide) rfl ?_
  refine r_bipush (kd15 rfl) (y := 16) (by decide) rfl ?_
  obtain ⟨g, h⟩ := h
  refine r_callVI (d' := d - 1) (by omega) (kd15 rfl) (by decide) rfl rfl rfl rfl (Nat.le_of_ble_eq_true rfl) rfl L10 (Nat.le_of_ble_eq_true rfl) (Nat.le_of_ble_eq_true rfl) g (Nat.zero_le _) (Nat.zero_le _) rfl rfl rfl (b_Reader_take (by omega) h) (fun x1 M1 h => ?_)
  obtain ⟨g, h⟩ := h
  have h := h _ rfl
  refine r_put0 (kd15 rfl) (by decide) rfl g rfl ?_
  refine r_iconst (kd15 rfl) (y := 0) (by decide) rfl ?_
  refine r_istore_n (kd15 rfl) L15 (by decide) rfl rfl ?_
  obtain ⟨n, h⟩ := h
  exact (b_Reader_readMethods_16 hd n _ _ _ h).less (e_sc (List.mem_of_getElem? (i := 1) rfl) (e_sc (List.mem_of_getElem? (i := 0) rfl) e_sn))
