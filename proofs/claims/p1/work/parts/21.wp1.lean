/-- TierMill$Reader.readTable()V -/
theorem kd16 {pc : Nat} {q : eI} (h : e_d16.lookup pc = some q) : e_dec 16 pc = some q := h
theorem L16 : (e_m 16).2.2.1 = 5 := rfl
theorem R16 : (e_m 16).2.2.2.1 = none := rfl
set_option maxRecDepth 100000 in
def w_Reader_readTable_2 : Nat → Nat → Int32 → eM → (eM → Prop) → Prop
  | 0, _, _, _, _ => False
  | n + 1, l0, l1, M, Q => e_ob M l0 6 ∧ e_ob M (gr M l0 0) 5 ∧ ((gi M (gr M l0 0) 2) ≤ l1 → Q M) ∧ (¬ (gi M (gr M l0 0) 2) ≤ l1 → e_ob M l0 6 ∧ e_ob M (gr M l0 0) 5 ∧ ((gi M (gr M l0 0) 7) ≤ 0 → (fun l0 l1 M => w_Reader_readTable_2 n l0 l1 M Q ) l0 (l1 + 1) M) ∧ (¬ (gi M (gr M l0 0) 7) ≤ 0 → e_ob M l0 6 ∧ e_ob M (gr M l0 0) 5 ∧ e_ob M l0 6 ∧ w_Reader_take l0 0 (gi M (gr M l0 0) 9) M (fun (v3 : Int32) (M2 : eM) => ((v3 - 1) = (-1) → e_ob M2 l0 6 ∧ e_ob M2 (gr M2 l0 0) 5 ∧ False) ∧ (¬ (v3 - 1) = (-1) → e_ob M2 l0 6 ∧ False))))
set_option maxRecDepth 100000 in
theorem b_Reader_readTable_2 {d : Nat} {Q : eM → Prop} (hd : 1 ≤ d) (n : Nat) : ∀ (l0 : Nat) (l1 : Int32) (M : eM), w_Reader_readTable_2 n l0 l1 M Q → e_E 16 d 0 0 2 [(0, .ref l0), (1, .int l1)] [] M (e_QV Q) := by
  induction n with
  | zero => intro l0 l1 M h; exact False.elim h
  | succ n ih =>
    intro l0 l1 M h
    have hk2 := ih
    refine r_iload_n (kd16 rfl) rfl rfl ?_
    refine r_aload_n (kd16 rfl) rfl rfl ?_
    obtain ⟨g, h⟩ := h
    refine r_get2 (kd16 rfl) (by decide) rfl g rfl ?_
    obtain ⟨g, h⟩ := h
    refine r_get0 (kd16 rfl) (by decide) rfl g rfl ?_
    refine r_icmp_ge (kd16 rfl) rfl (fun c => ?_) (fun c => ?_)
    · have h := h.1 c
      exact r_return (kd16 rfl) R16 h
    · have h := h.2 c
      refine r_iconst (kd16 rfl) (y := 0) (by decide) rfl ?_
      refine r_istore_n (kd16 rfl) L16 (by decide) rfl rfl ?_
      refine r_iload_n (kd16 rfl) rfl rfl ?_
      refine r_aload_n (kd16 rfl) rfl rfl ?_
      obtain ⟨g, h⟩ := h
      refine r_get2 (kd16 rfl) (by decide) rfl g rfl ?_
      obtain ⟨g, h⟩ := h
      refine r_get0 (kd16 rfl) (by decide) rfl g rfl ?_
      refine r_icmp_ge (kd16 rfl) rfl (fun c => ?_) (fun c => ?_)
      · have h := h.1 c
        refine r_iinc (kd16 rfl) rfl (y := 1) (by decide) L16 (by decide) rfl rfl ?_
        refine r_goto (kd16 rfl) ?_
        exact (hk2 _ _ _ h).less (e_sc (List.mem_of_getElem? (i := 2) rfl) (e_sc (List.mem_of_getElem? (i := 0) rfl) e_sn))
      · have h := h.2 c
        refine r_aload_n (kd16 rfl) rfl rfl ?_
        refine r_iconst (kd16 rfl) (y := 0) (by decide) rfl ?_
        refine r_aload_n (kd16 rfl) rfl rfl ?_
        obtain ⟨g, h⟩ := h
        refine r_get2 (kd16 rfl) (by decide) rfl g rfl ?_
        obtain ⟨g, h⟩ := h
        refine r_get0 (kd16 rfl) (by decide) rfl g rfl ?_
        obtain ⟨g, h⟩ := h
        refine r_callVI (d' := d - 1) (by omega) (kd16 rfl) (by decide) rfl rfl rfl rfl (Nat.le_of_ble_eq_true rfl) rfl L10 (Nat.le_of_ble_eq_true rfl) (Nat.le_of_ble_eq_true rfl) g (Nat.zero_le _) (Nat.zero_le _) rfl rfl rfl (b_Reader_take (by omega) h) (fun x1 M1 h => ?_)
        refine r_iconst (kd16 rfl) (y := 1) (by decide) rfl ?_
        refine r_isub (kd16 rfl) rfl ?_
        refine r_istore_n (kd16 rfl) L16 (by decide) rfl rfl ?_
        refine r_iload_n (kd16 rfl) rfl rfl ?_
        refine r_iconst (kd16 rfl) (y := (-1)) (by decide) rfl ?_
        refine r_icmp_eq (kd16 rfl) rfl (fun c => ?_) (fun c => ?_)
        · have h := h.1 c
          refine r_aload_n (kd16 rfl) rfl rfl ?_
          obtain ⟨g, h⟩ := h
          refine r_get2 (kd16 rfl) (by decide) rfl g rfl ?_
          obtain ⟨g, h⟩ := h
          refine r_get2 (kd16 rfl) (by decide) rfl g rfl ?_
          refine r_iload_n (kd16 rfl) rfl rfl ?_
          exact False.elim h
        · have h := h.2 c
          refine r_aload_n (kd16 rfl) rfl rfl ?_
          refine r_iload_n (kd16 rfl) rfl rfl ?_
          refine r_aload_n (kd16 rfl) rfl rfl ?_
          obtain ⟨g, h⟩ := h
          refine r_get2 (kd16 rfl) (by decide) rfl g rfl ?_
          refine r_iload_n (kd16 rfl) rfl rfl ?_
          exact False.elim h
set_option maxRecDepth 100000 in
def w_Reader_readTable (l0 : Nat) (M : eM) (Q : eM → Prop) : Prop := ∃ n1 : Nat, w_Reader_readTable_2 n1 l0 0 M Q
set_option maxRecDepth 100000 in
theorem b_Reader_readTable {d : Nat} {l0 : Nat} {M : eM} {Q : eM → Prop} (hd : 1 ≤ d) (h : w_Reader_readTable l0 M Q) : e_CV 16 d 0 0 [.ref l0] M Q := by
  unfold w_Reader_readTable at h
  show e_E 16 d 0 0 0 [(0, .ref l0)] [] M (e_QV Q)
  refine r_iconst (kd16 rfl) (y := 0) (by decide) rfl ?_
  refine r_istore_n (kd16 rfl) L16 (by decide) rfl rfl ?_
  obtain ⟨n, h⟩ := h
  exact (b_Reader_readTable_2 hd n _ _ _ h).less (e_sc (List.mem_of_getElem? (i := 1) rfl) (e_sc (List.mem_of_getElem? (i := 0) rfl) e_sn))
/-- TierMill$Reader.firstWrong(LTierMill$Program;)I -/
theorem kd9 {pc : Nat} {q : eI} (h : e_d9.lookup pc = some q) : e_dec 9 pc = some q := h
theorem L9 : (e_m 9).2.2.1 = 2 := rfl
theorem R9 : (e_m 9).2.2.2.1 = (some .int) := rfl
set_option maxRecDepth 100000 in
def w_Reader_firstWrong_61 (l0 : Nat) (M : eM) (Q : Int32 → eM → Prop) : Prop := e_ob M l0 6 ∧ Q (gi M l0 2) M
set_option maxRecDepth 100000 in
theorem b_Reader_firstWrong_61 {d : Nat} {l0 : Nat} {M : eM} {Q : Int32 → eM → Prop} (hd : 4 ≤ d) (h : w_Reader_firstWrong_61 l0 M Q ) : e_E 9 d 0 0 61 [(0, .ref l0)] [] M (e_QI Q) := by
  unfold w_Reader_firstWrong_61 at h
  refine r_aload_n (kd9 rfl) rfl rfl ?_
  obtain ⟨g, h⟩ := h
  refine r_get0 (kd9 rfl) (by decide) rfl g rfl ?_
  exact r_ireturn (kd9 rfl) R9 h
set_option maxRecDepth 100000 in
def w_Reader_firstWrong (l0 : Nat) (l1 : Nat) (M : eM) (Q : Int32 → eM → Prop) : Prop := e_ob M l0 6 ∧ ∀ M1 : eM, M1 = e_sr M l0 0 l1 → e_ob M1 l0 6 ∧ ∀ M2 : eM, M2 = e_si M1 l0 1 0 → e_ob M2 l0 6 ∧ ∀ M3 : eM, M3 = e_si M2 l0 2 (-1) → e_ob M3 l0 6 ∧ w_Reader_readClasses l0 M3 (fun (M4 : eM) => e_ob M4 l0 6 ∧ w_Reader_readSelectors l0 M4 (fun (M5 : eM) => e_ob M5 l0 6 ∧ w_Reader_readMethods l0 M5 (fun (M6 : eM) => e_ob M6 l0 6 ∧ w_Reader_readTable l0 M6 (fun (M7 : eM) => e_ob M7 l0 6 ∧ (¬ (gi M7 l0 2) = (-1) → w_Reader_firstWrong_61 l0 M7 Q) ∧ ((gi M7 l0 2) = (-1) → e_ob M7 l0 6 ∧ e_ob M7 l0 6 ∧ e_ob M7 (gr M7 l0 0) 5 ∧ ((gi M7 (gr M7 l0 0) 1) ≤ (gi M7 l0 1) → w_Reader_firstWrong_61 l0 M7 Q) ∧ (¬ (gi M7 (gr M7 l0 0) 1) ≤ (gi M7 l0 1) → e_ob M7 l0 6 ∧ e_ob M7 l0 6 ∧ ∀ M8 : eM, M8 = e_si M7 l0 2 (gi M7 l0 1) → w_Reader_firstWrong_61 l0 M8 Q))))))
set_option maxRecDepth 100000 in
theorem b_Reader_firstWrong {d : Nat} {l0 : Nat} {l1 : Nat} {M : eM} {Q : Int32 → eM → Prop} (hd : 4 ≤ d) (h : w_Reader_firstWrong l0 l1 M Q) : e_CI 9 d 0 0 [.ref l0, .ref l1] M Q := by
  unfold w_Reader_firstWrong at h
  show e_E 9 d 0 0 0 [(0, .ref l0), (1, .ref l1)] [] M (e_QI Q)
  refine r_aload_n (kd9 rfl) rfl rfl ?_
  refine r_aload_n (kd9 rfl) rfl rfl ?_
  obtain ⟨g, h⟩ := h
  have h := h _ rfl
  refine r_put2 (kd9 rfl) (by decide) rfl g rfl ?_
  refine r_aload_n (kd9 rfl) rfl rfl ?_
  refine r_iconst (kd9 rfl) (y := 0) (by decide) rfl ?_
  obtain ⟨g, h⟩ := h
  have h := h _ rfl
  refine r_put0 (kd9 rfl) (by decide) rfl g rfl ?_
  refine r_aload_n (kd9 rfl) rfl rfl ?_
  refine r_iconst (kd9 rfl) (y := (-1)) (by decide) rfl ?_
  obtain ⟨g, h⟩ := h
  have h := h _ rfl
  refine r_put0 (kd9 rfl) (by decide) rfl g rfl ?_
  refine r_aload_n (kd9 rfl) rfl rfl ?_
  obtain ⟨g, h⟩ := h
  refine r_callVV (d' := d - 1) (by omega) (kd9 rfl) (by decide) rfl rfl rfl rfl (Nat.le_of_ble_eq_true rfl) rfl L12 (Nat.le_of_ble_eq_true rfl) (Nat.le_of_ble_eq_true rfl) g (Nat.zero_le _) (Nat.zero_le _) rfl rfl rfl (b_Reader_readClasses (by omega) h) (fun M1 h => ?_)
  refine r_aload_n (kd9 rfl) rfl rfl ?_
  obtain ⟨g, h⟩ := h
  refine r_callVV (d' := d - 1) (by omega) (kd9 rfl) (by decide) rfl rfl rfl rfl (Nat.le_of_ble_eq_true rfl) rfl L13 (Nat.le_of_ble_eq_true rfl) (Nat.le_of_ble_eq_true rfl) g (Nat.zero_le _) (Nat.zero_le _) rfl rfl rfl (b_Reader_readSelectors (by omega) h) (fun M1 h => ?_)
  refine r_aload_n (kd9 rfl) rfl rfl ?_
  obtain ⟨g, h⟩ := h
  refine r_callVV (d' := d - 1) (by omega) (kd9 rfl) (by decide) rfl rfl rfl rfl (Nat.le_of_ble_eq_true rfl) rfl L15 (Nat.le_of_ble_eq_true rfl) (Nat.le_of_ble_eq_true rfl) g (Nat.zero_le _) (Nat.zero_le _) rfl rfl rfl (b_Reader_readMethods (by omega) h) (fun M1 h => ?_)
  refine r_aload_n (kd9 rfl) rfl rfl ?_
  obtain ⟨g, h⟩ := h
  refine r_callVV (d' := d - 1) (by omega) (kd9 rfl) (by decide) rfl rfl rfl rfl (Nat.le_of_ble_eq_true rfl) rfl L16 (Nat.le_of_ble_eq_true rfl) (Nat.le_of_ble_eq_true rfl) g (Nat.zero_le _) (Nat.zero_le _) rfl rfl rfl (b_Reader_readTable (by omega) h) (fun M1 h => ?_)
  refine r_aload_n (kd9 rfl) rfl rfl ?_
  obtain ⟨g, h⟩ := h
  refine r_get0 (kd9 rfl) (by decide) rfl g rfl ?_
  refine r_iconst (kd9 rfl) (y := (-1)) (by decide) rfl ?_
  refine r_icmp_ne (kd9 rfl) rfl (fun c => ?_) (fun c => ?_)
  · have h := h.1 c
    exact (b_Reader_firstWrong_61 hd h).less (e_sc (List.mem_of_getElem? (i := 0) rfl) e_sn)
  · have h := h.2 c
    refine r_aload_n (kd9 rfl) rfl rfl ?_
    obtain ⟨g, h⟩ := h
    refine r_get0 (kd9 rfl) (by decide) rfl g rfl ?_
    refine r_aload_n (kd9 rfl) rfl rfl ?_
    obtain ⟨g, h⟩ := h
    refine r_get2 (kd9 rfl) (by decide) rfl g rfl ?_
    obtain ⟨g, h⟩ := h
    refine r_get0 (kd9 rfl) (by decide) rfl g rfl ?_
    refine r_icmp_ge (kd9 rfl) rfl (fun c => ?_) (fun c => ?_)
    · have h := h.1 c
      exact (b_Reader_firstWrong_61 hd h).less (e_sc (List.mem_of_getElem? (i := 0) rfl) e_sn)
    · have h := h.2 c
      refine r_aload_n (kd9 rfl) rfl rfl ?_
      refine r_aload_n (kd9 rfl) rfl rfl ?_
      obtain ⟨g, h⟩ := h
      refine r_get0 (kd9 rfl) (by decide) rfl g rfl ?_
      obtain ⟨g, h⟩ := h
      have h := h _ rfl
      refine r_put0 (kd9 rfl) (by decide) rfl g rfl ?_
      exact (b_Reader_firstWrong_61 hd h).less (e_sc (List.mem_of_getElem? (i := 0) rfl) e_sn)
/-- TierMill$Verifier.<init>(LTierMill$Program;)V -/
theorem kd23 {pc : Nat} {q : eI} (h : e_d23.lookup pc = some q) : e_dec 23 pc = some q := h
theorem L23 : (e_m 23).2.2.1 = 2 := rfl
theorem R23 : (e_m 23).2.2.2.1 = none := rfl
def w_Verifier_init (kc ks : Nat) (l0 : Nat) (l1 : Nat) (M : eM) (Q : eM → Prop) : Prop := e_c0 ≤ l0 ∧ 1 ≤ kc ∧ 1 ≤ ks ∧ ∀ M1 : eM, M1 = e_new M 7 0 → e_c0 ≤ M.1 ∧ ∃ kc3 ks4 : Nat, kc3 ≤ (kc - 1) ∧ ks4 ≤ (ks - 1) ∧ w_Row_init kc3 ks4 M.1 1500 M1 (fun (M2 : eM) => e_ob M2 l0 10 ∧ ∀ M5 : eM, M5 = e_sr M2 l0 2 M.1 → e_ob M5 l0 10 ∧ ∀ M6 : eM, M6 = e_sr M5 l0 3 l1 → e_ob M6 l1 5 ∧ w_Program_methodAt l1 0 M6 (fun (v8 : Nat) (M7 : eM) => e_ob M7 l0 10 ∧ ∀ M9 : eM, M9 = e_sr M7 l0 4 v8 → Q M9))
theorem b_Verifier_init {d : Nat} {kc ks : Nat} {l0 : Nat} {l1 : Nat} {M : eM} {Q : eM → Prop} (hd : 1 ≤ d) (h : w_Verifier_init kc ks l0 l1 M Q) : e_CV 23 d kc ks [.ref l0, .ref l1] M Q := by
  unfold w_Verifier_init at h
  show e_E 23 d kc ks 0 [(0, .ref l0), (1, .ref l1)] [] M (e_QV Q)
  refine r_aload_n (kd23 rfl) rfl rfl ?_
  obtain ⟨g, h⟩ := h
  refine r_objInit (kd23 rfl) g (Nat.le_of_ble_eq_true rfl) rfl ?_
  refine r_aload_n (kd23 rfl) rfl rfl ?_
  obtain ⟨g1, g2, h⟩ := h
  have h := h _ rfl
  refine r_new (kd23 rfl) (by decide) (n := 1) rfl g1 g2 rfl ?_
  refine r_dup (kd23 rfl) rfl rfl ?_
  refine r_sipush (kd23 rfl) (y := 1500) (by decide) rfl ?_
  obtain ⟨g, h⟩ := h
  obtain ⟨mc, ms, q1, q2, h⟩ := h
  refine r_callIV (d' := d - 1) (by omega) (kd23 rfl) (by decide) rfl rfl rfl rfl (Nat.le_of_ble_eq_true rfl) rfl L17 (Nat.le_of_ble_eq_true rfl) (Nat.le_of_ble_eq_true rfl) g q1 q2 rfl rfl rfl (b_Row_init (by omega) h) (fun M1 h => ?_)
  obtain ⟨g, h⟩ := h
  have h := h _ rfl
  refine r_put2 (kd23 rfl) (by decide) rfl g rfl ?_
  refine r_aload_n (kd23 rfl) rfl rfl ?_
  refine r_aload_n (kd23 rfl) rfl rfl ?_
  obtain ⟨g, h⟩ := h
  have h := h _ rfl
  refine r_put2 (kd23 rfl) (by decide) rfl g rfl ?_
  refine r_aload_n (kd23 rfl) rfl rfl ?_
  refine r_aload_n (kd23 rfl) rfl rfl ?_
  refine r_iconst (kd23 rfl) (y := 0) (by decide) rfl ?_
  obtain ⟨g, h⟩ := h
  refine r_callVR (d' := d - 1) (by omega) (kd23 rfl) (by decide) rfl rfl rfl rfl (Nat.le_of_ble_eq_true rfl) rfl L7 (Nat.le_of_ble_eq_true rfl) (Nat.le_of_ble_eq_true rfl) g (Nat.zero_le _) (Nat.zero_le _) rfl rfl rfl (b_Program_methodAt (by omega) h) (fun x1 M1 h => ?_)
  obtain ⟨g, h⟩ := h
  have h := h _ rfl
  refine r_put2 (kd23 rfl) (by decide) rfl g rfl ?_
  exact r_return (kd23 rfl) R23 h
/-- TierMill.<init>()V -/
theorem kd24 {pc : Nat} {q : eI} (h : e_d24.lookup pc = some q) : e_dec 24 pc = some q := h
theorem L24 : (e_m 24).2.2.1 = 1 := rfl
theorem R24 : (e_m 24).2.2.2.1 = none := rfl
set_option maxRecDepth 100000 in
def w_Mill_init (kc ks : Nat) (l0 : Nat) (M : eM) (Q : eM → Prop) : Prop := e_c0 ≤ l0 ∧ 1 ≤ kc ∧ 18 ≤ ks ∧ ∀ M1 : eM, M1 = e_new M 5 0 → e_c0 ≤ M.1 ∧ ∃ kc3 ks4 : Nat, kc3 ≤ (kc - 1) ∧ ks4 ≤ (ks - 18) ∧ w_Program_init kc3 ks4 M.1 M1 (fun (M2 : eM) => e_ob M2 l0 11 ∧ ∀ M5 : eM, M5 = e_sr M2 l0 5 M.1 → 1 ≤ (kc - 1 - kc3) ∧ 18 ≤ (ks - 18 - ks4) ∧ ∀ M6 : eM, M6 = e_new M5 5 0 → e_c0 ≤ M5.1 ∧ ∃ kc8 ks9 : Nat, kc8 ≤ (kc - 1 - kc3 - 1) ∧ ks9 ≤ (ks - 18 - ks4 - 18) ∧ w_Program_init kc8 ks9 M5.1 M6 (fun (M7 : eM) => e_ob M7 l0 11 ∧ ∀ M10 : eM, M10 = e_sr M7 l0 6 M5.1 → 1 ≤ (kc - 1 - kc3 - 1 - kc8) ∧ 3 ≤ (ks - 18 - ks4 - 18 - ks9) ∧ ∀ M11 : eM, M11 = e_new M10 6 0 → e_ob M11 l0 11 ∧ e_c0 ≤ M10.1 ∧ w_Reader_init M10.1 (gr M11 l0 6) M11 (fun (M12 : eM) => e_ob M12 l0 11 ∧ ∀ M13 : eM, M13 = e_sr M12 l0 0 M10.1 → 1 ≤ (kc - 1 - kc3 - 1 - kc8 - 1) ∧ 3 ≤ (ks - 18 - ks4 - 18 - ks9 - 3) ∧ ∀ M14 : eM, M14 = e_new M13 0 0 → e_ob M14 l0 11 ∧ e_c0 ≤ M13.1 ∧ w_Decoder_init M13.1 (gr M14 l0 6) M14 (fun (M15 : eM) => e_ob M15 l0 11 ∧ ∀ M16 : eM, M16 = e_sr M15 l0 1 M13.1 → 1 ≤ (kc - 1 - kc3 - 1 - kc8 - 1 - 1) ∧ 9 ≤ (ks - 18 - ks4 - 18 - ks9 - 3 - 3) ∧ ∀ M17 : eM, M17 = e_new M16 10 0 → e_ob M17 l0 11 ∧ e_c0 ≤ M16.1 ∧ ∃ kc19 ks20 : Nat, kc19 ≤ (kc - 1 - kc3 - 1 - kc8 - 1 - 1 - 1) ∧ ks20 ≤ (ks - 18 - ks4 - 18 - ks9 - 3 - 3 - 9) ∧ w_Verifier_init kc19 ks20 M16.1 (gr M17 l0 6) M17 (fun (M18 : eM) => e_ob M18 l0 11 ∧ ∀ M21 : eM, M21 = e_sr M18 l0 2 M16.1 → 1 ≤ (kc - 1 - kc3 - 1 - kc8 - 1 - 1 - 1 - kc19) ∧ 17 ≤ (ks - 18 - ks4 - 18 - ks9 - 3 - 3 - 9 - ks20) ∧ ∀ M22 : eM, M22 = e_new M21 3 0 → e_ob M22 l0 11 ∧ e_c0 ≤ M21.1 ∧ ∃ kc24 ks25 : Nat, kc24 ≤ (kc - 1 - kc3 - 1 - kc8 - 1 - 1 - 1 - kc19 - 1) ∧ ks25 ≤ (ks - 18 - ks4 - 18 - ks9 - 3 - 3 - 9 - ks20 - 17) ∧ w_Machine_init kc24 ks25 M21.1 (gr M22 l0 5) M22 (fun (M23 : eM) => e_ob M23 l0 11 ∧ ∀ M26 : eM, M26 = e_sr M23 l0 3 M21.1 → e_ob M26 l0 11 ∧ ∀ M27 : eM, M27 = e_si M26 l0 10 500 → Q M27))))))
set_option maxRecDepth 100000 in
theorem b_Mill_init {d : Nat} {kc ks : Nat} {l0 : Nat} {M : eM} {Q : eM → Prop} (hd : 4 ≤ d) (h : w_Mill_init kc ks l0 M Q) : e_CV 24 d kc ks [.ref l0] M Q := by
  unfold w_Mill_init at h
  show e_E 24 d kc ks 0 [(0, .ref l0)] [] M (e_QV Q)
  refine r_aload_n (kd24 rfl) rfl rfl ?_
  obtain ⟨g, h⟩ := h
  refine r_objInit (kd24 rfl) g (Nat.le_of_ble_eq_true rfl) rfl ?_
  refine r_aload_n (kd24 rfl) rfl rfl ?_
  obtain ⟨g1, g2, h⟩ := h
  have h := h _ rfl
  refine r_new (kd24 rfl) (by decide) (n := 18) rfl g1 g2 rfl ?_
  refine r_dup (kd24 rfl) rfl rfl ?_
  obtain ⟨g, h⟩ := h
  obtain ⟨mc, ms, q1, q2, h⟩ := h
  refine r_callIV (d' := d - 1) (by omega) (kd24 rfl) (by decide) rfl rfl rfl rfl (Nat.le_of_ble_eq_true rfl) rfl L6 (Nat.le_of_ble_eq_true rfl) (Nat.le_of_ble_eq_true rfl) g q1 q2 rfl rfl rfl (b_Program_init (by omega) h) (fun M1 h => ?_)
  obtain ⟨g, h⟩ := h
  have h := h _ rfl
  refine r_put2 (kd24 rfl) (by decide) rfl g rfl ?_
  refine r_aload_n (kd24 rfl) rfl rfl ?_
  obtain ⟨g1, g2, h⟩ := h
  have h := h _ rfl
  refine r_new (kd24 rfl) (by decide) (n := 18) rfl g1 g2 rfl ?_
  refine r_dup (kd24 rfl) rfl rfl ?_
  obtain ⟨g, h⟩ := h
  obtain ⟨mc, ms, q1, q2, h⟩ := h
  refine r_callIV (d' := d - 1) (by omega) (kd24 rfl) (by decide) rfl rfl rfl rfl (Nat.le_of_ble_eq_true rfl) rfl L6 (Nat.le_of_ble_eq_true rfl) (Nat.le_of_ble_eq_true rfl) g q1 q2 rfl rfl rfl (b_Program_init (by omega) h) (fun M1 h => ?_)
  obtain ⟨g, h⟩ := h
  have h := h _ rfl
  refine r_put2 (kd24 rfl) (by decide) rfl g rfl ?_
  refine r_aload_n (kd24 rfl) rfl rfl ?_
  obtain ⟨g1, g2, h⟩ := h
  have h := h _ rfl
  refine r_new (kd24 rfl) (by decide) (n := 3) rfl g1 g2 rfl ?_
  refine r_dup (kd24 rfl) rfl rfl ?_
  refine r_aload_n (kd24 rfl) rfl rfl ?_
  obtain ⟨g, h⟩ := h
  refine r_get2 (kd24 rfl) (by decide) rfl g rfl ?_
  obtain ⟨g, h⟩ := h
  refine r_callIV (d' := d - 1) (by omega) (kd24 rfl) (by decide) rfl rfl rfl rfl (Nat.le_of_ble_eq_true rfl) rfl L8 (Nat.le_of_ble_eq_true rfl) (Nat.le_of_ble_eq_true rfl) g (Nat.zero_le _) (Nat.zero_le _) rfl rfl rfl (b_Reader_init (by omega) h) (fun M1 h => ?_)
  obtain ⟨g, h⟩ := h
  have h := h _ rfl
  refine r_put2 (kd24 rfl) (by decide) rfl g rfl ?_
  refine r_aload_n (kd24 rfl) rfl rfl ?_
  obtain ⟨g1, g2, h⟩ := h
  have h := h _ rfl
  refine r_new (kd24 rfl) (by decide) (n := 3) rfl g1 g2 rfl ?_
  refine r_dup (kd24 rfl) rfl rfl ?_
  refine r_aload_n (kd24 rfl) rfl rfl ?_
  obtain ⟨g, h⟩ := h
  refine r_get2 (kd24 rfl) (by decide) rfl g rfl ?_
  obtain ⟨g, h⟩ := h
  refine r_callIV (d' := d - 1) (by omega) (kd24 rfl) (by decide) rfl rfl rfl rfl (Nat.le_of_ble_eq_true rfl) rfl L0 (Nat.le_of_ble_eq_true rfl) (Nat.le_of_ble_eq_true rfl) g (Nat.zero_le _) (Nat.zero_le _) rfl rfl rfl (b_Decoder_init (by omega) h) (fun M1 h => ?_)
  obtain ⟨g, h⟩ := h
  have h := h _ rfl
  refine r_put2 (kd24 rfl) (by decide) rfl g rfl ?_
  refine r_aload_n (kd24 rfl) rfl rfl ?_
  obtain ⟨g1, g2, h⟩ := h
  have h := h _ rfl
  refine r_new (kd24 rfl) (by decide) (n := 9) rfl g1 g2 rfl ?_
  refine r_dup (kd24 rfl) rfl rfl ?_
  refine r_aload_n (kd24 rfl) rfl rfl ?_
  obtain ⟨g, h⟩ := h
  refine r_get2 (kd24 rfl) (by decide) rfl g rfl ?_
  obtain ⟨g, h⟩ := h
  obtain ⟨mc, ms, q1, q2, h⟩ := h
  refine r_callIV (d' := d - 1) (by omega) (kd24 rfl) (by decide) rfl rfl rfl rfl (Nat.le_of_ble_eq_true rfl) rfl L23 (Nat.le_of_ble_eq_true rfl) (Nat.le_of_ble_eq_true rfl) g q1 q2 rfl rfl rfl (b_Verifier_init (by omega) h) (fun M1 h => ?_)
  obtain ⟨g, h⟩ := h
  have h := h _ rfl
  refine r_put2 (kd24 rfl) (by decide) rfl g rfl ?_
  refine r_aload_n (kd24 rfl) rfl rfl ?_
  obtain ⟨g1, g2, h⟩ := h
  have h := h _ rfl
  refine r_new (kd24 rfl) (by decide) (n := 17) rfl g1 g2 rfl ?_
  refine r_dup (kd24 rfl) rfl rfl ?_
  refine r_aload_n (kd24 rfl) rfl rfl ?_
  obtain ⟨g, h⟩ := h
  refine r_get2 (kd24 rfl) (by decide) rfl g rfl ?_
  obtain ⟨g, h⟩ := h
  obtain ⟨mc, ms, q1, q2, h⟩ := h
  refine r_callIV (d' := d - 1) (by omega) (kd24 rfl) (by decide) rfl rfl rfl rfl (Nat.le_of_ble_eq_true rfl) rfl L4 (Nat.le_of_ble_eq_true rfl) (Nat.le_of_ble_eq_true rfl) g q1 q2 rfl rfl rfl (b_Machine_init (by omega) h) (fun M1 h => ?_)
  obtain ⟨g, h⟩ := h
  have h := h _ rfl
  refine r_put2 (kd24 rfl) (by decide) rfl g rfl ?_
  refine r_aload_n (kd24 rfl) rfl rfl ?_
  refine r_sipush (kd24 rfl) (y := 500) (by decide) rfl ?_
  obtain ⟨g, h⟩ := h
  have h := h _ rfl
  refine r_put0 (kd24 rfl) (by decide) rfl g rfl ?_
  exact r_return (kd24 rfl) R24 h
/-- TierMill.put(JI)Z -/
theorem kd25 {pc : Nat} {q : eI} (h : e_d25.lookup pc = some q) : e_dec 25 pc = some q := h
theorem L25 : (e_m 25).2.2.1 = 5 := rfl
theorem R25 : (e_m 25).2.2.2.1 = (some .boolean) := rfl
set_option maxRecDepth 100000 in
def w_Mill_put_26 (M : eM) (Q : Int32 → eM → Prop) : Prop := ((0 : Int32) = 0 ∨ (0 : Int32) = 1) ∧ Q (0 : Int32) M
set_option maxRecDepth 100000 in
theorem b_Mill_put_26 {d : Nat} {M : eM} {Q : Int32 → eM → Prop} (hd : 1 ≤ d) (h : w_Mill_put_26 M Q ) : e_E 25 d 0 0 26 [] [] M (e_QI Q) := by
  unfold w_Mill_put_26 at h
  refine r_iconst (kd25 rfl) (y := 0) (by decide) rfl ?_
  exact r_zreturn (kd25 rfl) R25 h.1 h.2
set_option maxRecDepth 100000 in
def w_Mill_put_33 : Nat → Nat → Int64 → Int32 → eM → (Int32 → eM → Prop) → Prop
  | 0, _, _, _, _, _ => False
  | n + 1, l0, l1, l4, M, Q => (l4 < 0 → ((1 : Int32) = 0 ∨ (1 : Int32) = 1) ∧ Q (1 : Int32) M) ∧ (¬ l4 < 0 → e_ob M l0 11 ∧ e_ob M (gr M l0 6) 5 ∧ e_ob M l0 11 ∧ e_ob M (gr M l0 6) 5 ∧ e_ob M (gr M (gr M l0 6) 0) 7 ∧ w_Row_set (gr M (gr M l0 6) 0) (gi M (gr M l0 6) 1) ((((l1.toUInt64 >>> ((8 * l4).toInt64.toUInt64 &&& Int64.toUInt64 63)).toInt64).toInt32) &&& 255) M (fun (M2 : eM) => e_ob M2 l0 11 ∧ e_ob M2 (gr M2 l0 6) 5 ∧ e_ob M2 (gr M2 l0 6) 5 ∧ ∀ M3 : eM, M3 = e_si M2 (gr M2 l0 6) 1 ((gi M2 (gr M2 l0 6) 1) + 1) → (fun l0 l1 l4 M => w_Mill_put_33 n l0 l1 l4 M Q ) l0 l1 (l4 + (-1)) M3))
set_option maxRecDepth 100000 in
theorem b_Mill_put_33 {d : Nat} {Q : Int32 → eM → Prop} (hd : 1 ≤ d) (n : Nat) : ∀ (l0 : Nat) (l1 : Int64) (l4 : Int32) (M : eM), w_Mill_put_33 n l0 l1 l4 M Q → e_E 25 d 0 0 33 [(0, .ref l0), (1, .long l1), (4, .int l4)] [] M (e_QI Q) := by
  induction n with
  | zero => intro l0 l1 l4 M h; exact False.elim h
  | succ n ih =>
    intro l0 l1 l4 M h
    have hk33 := ih
    refine r_iload (kd25 rfl) rfl rfl ?_
    refine r_if_lt (kd25 rfl) rfl (fun c => ?_) (fun c => ?_)
    · have h := h.1 c
      refine r_iconst (kd25 rfl) (y := 1) (by decide) rfl ?_
      exact r_zreturn (kd25 rfl) R25 h.1 h.2
    · have h := h.2 c
      refine r_aload_n (kd25 rfl) rfl rfl ?_
      obtain ⟨g, h⟩ := h
      refine r_get2 (kd25 rfl) (by decide) rfl g rfl ?_
      obtain ⟨g, h⟩ := h
      refine r_get2 (kd25 rfl) (by decide) rfl g rfl ?_
      refine r_aload_n (kd25 rfl) rfl rfl ?_
      obtain ⟨g, h⟩ := h
      refine r_get2 (kd25 rfl) (by decide) rfl g rfl ?_
      obtain ⟨g, h⟩ := h
      refine r_get0 (kd25 rfl) (by decide) rfl g rfl ?_
      refine r_lload_n (kd25 rfl) rfl rfl ?_
      refine r_bipush (kd25 rfl) (y := 8) (by decide) rfl ?_
      refine r_iload (kd25 rfl) rfl rfl ?_
      refine r_imul (kd25 rfl) rfl ?_
      refine r_lushr (kd25 rfl) rfl ?_
      refine r_l2i (kd25 rfl) rfl ?_
      refine r_sipush (kd25 rfl) (y := 255) (by decide) rfl ?_
      refine r_iand (kd25 rfl) rfl ?_
      obtain ⟨g, h⟩ := h
      refine r_callVV (d' := d - 1) (by omega) (kd25 rfl) (by decide) rfl rfl rfl rfl (Nat.le_of_ble_eq_true rfl) rfl L18 (Nat.le_of_ble_eq_true rfl) (Nat.le_of_ble_eq_true rfl) g (Nat.zero_le _) (Nat.zero_le _) rfl rfl rfl (b_Row_set (by omega) h) (fun M1 h => ?_)
      refine r_aload_n (kd25 rfl) rfl rfl ?_
      obtain ⟨g, h⟩ := h
      refine r_get2 (kd25 rfl) (by decide) rfl g rfl ?_
      refine r_dup (kd25 rfl) rfl rfl ?_
      obtain ⟨g, h⟩ := h
      refine r_get0 (kd25 rfl) (by decide) rfl g rfl ?_
      refine r_iconst (kd25 rfl) (y := 1) (by decide) rfl ?_
      refine r_iadd (kd25 rfl) rfl ?_
      obtain ⟨g, h⟩ := h
      have h := h _ rfl
      refine r_put0 (kd25 rfl) (by decide) rfl g rfl ?_
      refine r_iinc (kd25 rfl) rfl (y := (-1)) (by decide) L25 (by decide) rfl rfl ?_
      refine r_goto (kd25 rfl) ?_
      exact (hk33 _ _ _ _ h).less (e_sc (List.mem_of_getElem? (i := 1) rfl) (e_sc (List.mem_of_getElem? (i := 2) rfl) (e_sc (List.mem_of_getElem? (i := 0) rfl) e_sn)))
set_option maxRecDepth 100000 in
def w_Mill_put (l0 : Nat) (l1 : Int64) (l3 : Int32) (M : eM) (Q : Int32 → eM → Prop) : Prop := (l3 < 1 → w_Mill_put_26 M Q) ∧ (¬ l3 < 1 → (8 < l3 → w_Mill_put_26 M Q) ∧ (¬ 8 < l3 → e_ob M l0 11 ∧ e_ob M (gr M l0 6) 5 ∧ (((gi M (gr M l0 6) 1) + l3) ≤ 1500 → ∃ n1 : Nat, w_Mill_put_33 n1 l0 l1 (l3 - 1) M Q) ∧ (¬ ((gi M (gr M l0 6) 1) + l3) ≤ 1500 → w_Mill_put_26 M Q)))
set_option maxRecDepth 100000 in
theorem b_Mill_put {d : Nat} {l0 : Nat} {l1 : Int64} {l3 : Int32} {M : eM} {Q : Int32 → eM → Prop} (hd : 1 ≤ d) (h : w_Mill_put l0 l1 l3 M Q) : e_CI 25 d 0 0 [.ref l0, .long l1, .int l3] M Q := by
  unfold w_Mill_put at h
  show e_E 25 d 0 0 0 [(0, .ref l0), (1, .long l1), (3, .int l3)] [] M (e_QI Q)
  refine r_iload_n (kd25 rfl) rfl rfl ?_
  refine r_iconst (kd25 rfl) (y := 1) (by decide) rfl ?_
  refine r_icmp_lt (kd25 rfl) rfl (fun c => ?_) (fun c => ?_)
  · have h := h.1 c
    exact (b_Mill_put_26 hd h).less e_sn
  · have h := h.2 c
    refine r_iload_n (kd25 rfl) rfl rfl ?_
    refine r_bipush (kd25 rfl) (y := 8) (by decide) rfl ?_
    refine r_icmp_gt (kd25 rfl) rfl (fun c => ?_) (fun c => ?_)
    · have h := h.1 c
      exact (b_Mill_put_26 hd h).less e_sn
    · have h := h.2 c
      refine r_aload_n (kd25 rfl) rfl rfl ?_
      obtain ⟨g, h⟩ := h
      refine r_get2 (kd25 rfl) (by decide) rfl g rfl ?_
      obtain ⟨g, h⟩ := h
      refine r_get0 (kd25 rfl) (by decide) rfl g rfl ?_
      refine r_iload_n (kd25 rfl) rfl rfl ?_
      refine r_iadd (kd25 rfl) rfl ?_
      refine r_sipush (kd25 rfl) (y := 1500) (by decide) rfl ?_
      refine r_icmp_le (kd25 rfl) rfl (fun c => ?_) (fun c => ?_)
      · have h := h.1 c
        refine r_iload_n (kd25 rfl) rfl rfl ?_
        refine r_iconst (kd25 rfl) (y := 1) (by decide) rfl ?_
        refine r_isub (kd25 rfl) rfl ?_
        refine r_istore (kd25 rfl) L25 (by decide) rfl rfl ?_
        obtain ⟨n, h⟩ := h
        exact (b_Mill_put_33 hd n _ _ _ _ h).less (e_sc (List.mem_of_getElem? (i := 1) rfl) (e_sc (List.mem_of_getElem? (i := 2) rfl) (e_sc (List.mem_of_getElem? (i := 0) rfl) e_sn)))
      · have h := h.2 c
        exact (b_Mill_put_26 hd h).less e_sn
/-- TierMill.keepFault(III)V -/
theorem kd27 {pc : Nat} {q : eI} (h : e_d27.lookup pc = some q) : e_dec 27 pc = some q := h
theorem L27 : (e_m 27).2.2.1 = 4 := rfl
theorem R27 : (e_m 27).2.2.2.1 = none := rfl
def w_Mill_keepFault (l0 : Nat) (l1 : Int32) (l2 : Int32) (l3 : Int32) (M : eM) (Q : eM → Prop) : Prop := e_ob M l0 11 ∧ ∀ M1 : eM, M1 = e_si M l0 7 l1 → e_ob M1 l0 11 ∧ ∀ M2 : eM, M2 = e_si M1 l0 8 l2 → e_ob M2 l0 11 ∧ ∀ M3 : eM, M3 = e_si M2 l0 9 l3 → Q M3
theorem b_Mill_keepFault {d : Nat} {l0 : Nat} {l1 : Int32} {l2 : Int32} {l3 : Int32} {M : eM} {Q : eM → Prop} (hd : 0 ≤ d) (h : w_Mill_keepFault l0 l1 l2 l3 M Q) : e_CV 27 d 0 0 [.ref l0, .int l1, .int l2, .int l3] M Q := by
  unfold w_Mill_keepFault at h
  show e_E 27 d 0 0 0 [(0, .ref l0), (1, .int l1), (2, .int l2), (3, .int l3)] [] M (e_QV Q)
  refine r_aload_n (kd27 rfl) rfl rfl ?_
  refine r_iload_n (kd27 rfl) rfl rfl ?_
  obtain ⟨g, h⟩ := h
  have h := h _ rfl
  refine r_put0 (kd27 rfl) (by decide) rfl g rfl ?_
  refine r_aload_n (kd27 rfl) rfl rfl ?_
  refine r_iload_n (kd27 rfl) rfl rfl ?_
  obtain ⟨g, h⟩ := h
  have h := h _ rfl
  refine r_put0 (kd27 rfl) (by decide) rfl g rfl ?_
  refine r_aload_n (kd27 rfl) rfl rfl ?_
  refine r_iload_n (kd27 rfl) rfl rfl ?_
  obtain ⟨g, h⟩ := h
  have h := h _ rfl
  refine r_put0 (kd27 rfl) (by decide) rfl g rfl ?_
  exact r_return (kd27 rfl) R27 h
/-- TierMill.load()I -/
theorem kd26 {pc : Nat} {q : eI} (h : e_d26.lookup pc = some q) : e_dec 26 pc = some q := h
theorem L26 : (e_m 26).2.2.1 = 3 := rfl
theorem R26 : (e_m 26).2.2.2.1 = (some .int) := rfl
set_option maxRecDepth 100000 in
def w_Mill_load (kc ks : Nat) (l0 : Nat) (M : eM) (Q : Int32 → eM → Prop) (X : Nat → eM → Prop) : Prop := e_ob M l0 11 ∧ e_ob M l0 11 ∧ e_ob M (gr M l0 0) 6 ∧ w_Reader_firstWrong (gr M l0 0) (gr M l0 6) M (fun (v2 : Int32) (M1 : eM) => (v2 = (-1) → e_ob M1 l0 11 ∧ e_ob M1 l0 11 ∧ False) ∧ (¬ v2 = (-1) → e_ob M1 l0 11 ∧ w_Mill_keepFault l0 1 v2 0 M1 (fun (M3 : eM) => e_ob M3 l0 11 ∧ ((gi M3 l0 7) = 0 → e_ob M3 l0 11 ∧ e_ob M3 l0 11 ∧ e_ob M3 l0 11 ∧ ∀ M4 : eM, M4 = e_sr M3 l0 5 (gr M3 l0 6) → e_ob M4 l0 11 ∧ ∀ M5 : eM, M5 = e_sr M4 l0 6 (gr M3 l0 5) → e_ob M5 l0 11 ∧ e_ob M5 (gr M5 l0 6) 5 ∧ ∀ M6 : eM, M6 = e_si M5 (gr M5 l0 6) 1 0 → e_ob M6 l0 11 ∧ ((1 : Int32) = 0 ∨ (1 : Int32) = 1) ∧ ∀ M7 : eM, M7 = e_si M6 l0 4 (1 : Int32) → e_ob M7 l0 11 ∧ False) ∧ (¬ (gi M3 l0 7) = 0 → e_ob M3 l0 11 ∧ e_ob M3 (gr M3 l0 6) 5 ∧ ∀ M8 : eM, M8 = e_si M3 (gr M3 l0 6) 1 0 → 1 ≤ kc ∧ 6 ≤ ks ∧ X 91 M8))))
set_option maxRecDepth 100000 in
theorem b_Mill_load {d : Nat} {kc ks : Nat} {l0 : Nat} {M : eM} {Q : Int32 → eM → Prop} {X : Nat → eM → Prop} (hd : 5 ≤ d) (h : w_Mill_load kc ks l0 M Q X) : e_C 26 d kc ks [.ref l0] M (e_QX Q X) := by
  unfold w_Mill_load at h
  show e_E 26 d kc ks 0 [(0, .ref l0)] [] M (e_QX Q X)
  refine r_aload_n (kd26 rfl) rfl rfl ?_
  obtain ⟨g, h⟩ := h
  refine r_get2 (kd26 rfl) (by decide) rfl g rfl ?_
  refine r_aload_n (kd26 rfl) rfl rfl ?_
  obtain ⟨g, h⟩ := h
  refine r_get2 (kd26 rfl) (by decide) rfl g rfl ?_
  obtain ⟨g, h⟩ := h
  refine r_callVI (d' := d - 1) (by omega) (kd26 rfl) (by decide) rfl rfl rfl rfl (Nat.le_of_ble_eq_true rfl) rfl L9 (Nat.le_of_ble_eq_true rfl) (Nat.le_of_ble_eq_true rfl) g (Nat.zero_le _) (Nat.zero_le _) rfl rfl rfl (b_Reader_firstWrong (by omega) h) (fun x1 M1 h => ?_)
  refine r_istore_n (kd26 rfl) L26 (by decide) rfl rfl ?_
  refine r_iload_n (kd26 rfl) rfl rfl ?_
  refine r_iconst (kd26 rfl) (y := (-1)) (by decide) rfl ?_
  refine r_icmp_eq (kd26 rfl) rfl (fun c => ?_) (fun c => ?_)
  · have h := h.1 c
    refine r_aload_n (kd26 rfl) rfl rfl ?_
    obtain ⟨g, h⟩ := h
    refine r_get2 (kd26 rfl) (by decide) rfl g rfl ?_
    refine r_aload_n (kd26 rfl) rfl rfl ?_
    obtain ⟨g, h⟩ := h
    refine r_get2 (kd26 rfl) (by decide) rfl g rfl ?_
    exact False.elim h
  · have h := h.2 c
    refine r_aload_n (kd26 rfl) rfl rfl ?_
    refine r_iconst (kd26 rfl) (y := 1) (by decide) rfl ?_
    refine r_iload_n (kd26 rfl) rfl rfl ?_
    refine r_iconst (kd26 rfl) (y := 0) (by decide) rfl ?_
    obtain ⟨g, h⟩ := h
    refine r_callVV (d' := d - 1) (by omega) (kd26 rfl) (by decide) rfl rfl rfl rfl (Nat.le_of_ble_eq_true rfl) rfl L27 (Nat.le_of_ble_eq_true rfl) (Nat.le_of_ble_eq_true rfl) g (Nat.zero_le _) (Nat.zero_le _) rfl rfl rfl (b_Mill_keepFault (by omega) h) (fun M1 h => ?_)
    refine r_goto (kd26 rfl) ?_
    refine r_aload_n (kd26 rfl) rfl rfl ?_
    obtain ⟨g, h⟩ := h
    refine r_get0 (kd26 rfl) (by decide) rfl g rfl ?_
    refine r_if_eq (kd26 rfl) rfl (fun c => ?_) (fun c => ?_)
    · have h := h.1 c
      refine r_aload_n (kd26 rfl) rfl rfl ?_
      obtain ⟨g, h⟩ := h
      refine r_get2 (kd26 rfl) (by decide) rfl g rfl ?_
      refine r_astore_n (kd26 rfl) L26 (by decide) rfl rfl ?_
      refine r_aload_n (kd26 rfl) rfl rfl ?_
      refine r_aload_n (kd26 rfl) rfl rfl ?_
      obtain ⟨g, h⟩ := h
      refine r_get2 (kd26 rfl) (by decide) rfl g rfl ?_
      obtain ⟨g, h⟩ := h
      have h := h _ rfl
      refine r_put2 (kd26 rfl) (by decide) rfl g rfl ?_
      refine r_aload_n (kd26 rfl) rfl rfl ?_
      refine r_aload_n (kd26 rfl) rfl rfl ?_
      obtain ⟨g, h⟩ := h
      have h := h _ rfl
      refine r_put2 (kd26 rfl) (by decide) rfl g rfl ?_
      refine r_aload_n (kd26 rfl) rfl rfl ?_
      obtain ⟨g, h⟩ := h
      refine r_get2 (kd26 rfl) (by decide) rfl g rfl ?_
      refine r_iconst (kd26 rfl) (y := 0) (by decide) rfl ?_
      obtain ⟨g, h⟩ := h
      have h := h _ rfl
      refine r_put0 (kd26 rfl) (by decide) rfl g rfl ?_
      refine r_aload_n (kd26 rfl) rfl rfl ?_
      refine r_iconst (kd26 rfl) (y := 1) (by decide) rfl ?_
      obtain ⟨g, h⟩ := h
      obtain ⟨gb, h⟩ := h
      have h := h _ rfl
      refine r_put3 (kd26 rfl) (by decide) rfl g gb rfl ?_
      refine r_aload_n (kd26 rfl) rfl rfl ?_
      obtain ⟨g, h⟩ := h
      refine r_get2 (kd26 rfl) (by decide) rfl g rfl ?_
      exact False.elim h
    · have h := h.2 c
      refine r_aload_n (kd26 rfl) rfl rfl ?_
      obtain ⟨g, h⟩ := h
      refine r_get2 (kd26 rfl) (by decide) rfl g rfl ?_
      refine r_iconst (kd26 rfl) (y := 0) (by decide) rfl ?_
      obtain ⟨g, h⟩ := h
      have h := h _ rfl
      refine r_put0 (kd26 rfl) (by decide) rfl g rfl ?_
      exact r_throw (kd26 rfl) (by decide) (by decide) h.1 h.2.1 (Or.inr ⟨_, rfl, h.2.2⟩)
/-- TierMill.fault(I)I -/
theorem kd28 {pc : Nat} {q : eI} (h : e_d28.lookup pc = some q) : e_dec 28 pc = some q := h
theorem L28 : (e_m 28).2.2.1 = 2 := rfl
theorem R28 : (e_m 28).2.2.2.1 = (some .int) := rfl
def w_Mill_fault (l0 : Nat) (l1 : Int32) (M : eM) (Q : Int32 → eM → Prop) : Prop := (l1 = 0 → e_ob M l0 11 ∧ Q (gi M l0 7) M) ∧ (¬ l1 = 0 → (l1 = 1 → e_ob M l0 11 ∧ Q (gi M l0 8) M) ∧ (¬ l1 = 1 → (l1 = 2 → e_ob M l0 11 ∧ Q (gi M l0 9) M) ∧ (¬ l1 = 2 → Q ((-1) : Int32) M)))
theorem b_Mill_fault {d : Nat} {l0 : Nat} {l1 : Int32} {M : eM} {Q : Int32 → eM → Prop} (hd : 0 ≤ d) (h : w_Mill_fault l0 l1 M Q) : e_CI 28 d 0 0 [.ref l0, .int l1] M Q := by
  unfold w_Mill_fault at h
  show e_E 28 d 0 0 0 [(0, .ref l0), (1, .int l1)] [] M (e_QI Q)
  refine r_iload_n (kd28 rfl) rfl rfl ?_
  refine r_tableswitch (kd28 rfl) (u := 43) (qs := [(0, 28), (1, 33), (2, 38)]) rfl rfl rfl (by decide) ?_
  refine ⟨fun c => ?_, fun c => ?_⟩
  · have h := h.1 c
    refine r_aload_n (kd28 rfl) rfl rfl ?_
    obtain ⟨g, h⟩ := h
    refine r_get0 (kd28 rfl) (by decide) rfl g rfl ?_
    exact r_ireturn (kd28 rfl) R28 h
  have h := h.2 c
  refine ⟨fun c => ?_, fun c => ?_⟩
  · have h := h.1 c
    refine r_aload_n (kd28 rfl) rfl rfl ?_
    obtain ⟨g, h⟩ := h
    refine r_get0 (kd28 rfl) (by decide) rfl g rfl ?_
    exact r_ireturn (kd28 rfl) R28 h
  have h := h.2 c
  refine ⟨fun c => ?_, fun c => ?_⟩
  · have h := h.1 c
    refine r_aload_n (kd28 rfl) rfl rfl ?_
    obtain ⟨g, h⟩ := h
    refine r_get0 (kd28 rfl) (by decide) rfl g rfl ?_
    exact r_ireturn (kd28 rfl) R28 h
  have h := h.2 c
  show e_E 28 _ _ _ 43 _ _ _ _
  refine r_iconst (kd28 rfl) (y := (-1)) (by decide) rfl ?_
  exact r_ireturn (kd28 rfl) R28 h
/-- TierMill.kind(III)I -/
theorem kd29 {pc : Nat} {q : eI} (h : e_d29.lookup pc = some q) : e_dec 29 pc = some q := h
theorem L29 : (e_m 29).2.2.1 = 7 := rfl
theorem R29 : (e_m 29).2.2.2.1 = (some .int) := rfl
set_option maxRecDepth 100000 in
def w_Mill_kind (l0 : Nat) (l1 : Int32) (l2 : Int32) (l3 : Int32) (M : eM) (Q : Int32 → eM → Prop) : Prop := e_ob M l0 11 ∧ ((gi M l0 4) = 0 → Q ((-1) : Int32) M) ∧ (¬ (gi M l0 4) = 0 → e_ob M l0 11 ∧ False)
set_option maxRecDepth 100000 in
theorem b_Mill_kind {d : Nat} {l0 : Nat} {l1 : Int32} {l2 : Int32} {l3 : Int32} {M : eM} {Q : Int32 → eM → Prop} (hd : 0 ≤ d) (h : w_Mill_kind l0 l1 l2 l3 M Q) : e_CI 29 d 0 0 [.ref l0, .int l1, .int l2, .int l3] M Q := by
  unfold w_Mill_kind at h
  show e_E 29 d 0 0 0 [(0, .ref l0), (1, .int l1), (2, .int l2), (3, .int l3)] [] M (e_QI Q)
  refine r_aload_n (kd29 rfl) rfl rfl ?_
  obtain ⟨g, h⟩ := h
  refine r_get3 (kd29 rfl) (by decide) rfl g rfl ?_
  refine r_if_eq (kd29 rfl) rfl (fun c => ?_) (fun c => ?_)
  · have h := h.1 c
    refine r_iconst (kd29 rfl) (y := (-1)) (by decide) rfl ?_
    exact r_ireturn (kd29 rfl) R29 h
  · have h := h.2 c
    refine r_aload_n (kd29 rfl) rfl rfl ?_
    obtain ⟨g, h⟩ := h
    refine r_get2 (kd29 rfl) (by decide) rfl g rfl ?_
    refine r_iload_n (kd29 rfl) rfl rfl ?_
    refine r_iload_n (kd29 rfl) rfl rfl ?_
    exact False.elim h
/-- TierMill.tiers(IIII)Z -/
theorem kd30 {pc : Nat} {q : eI} (h : e_d30.lookup pc = some q) : e_dec 30 pc = some q := h
theorem L30 : (e_m 30).2.2.1 = 6 := rfl
theorem R30 : (e_m 30).2.2.2.1 = (some .boolean) := rfl
set_option maxRecDepth 100000 in
def w_Mill_tiers_24 (M : eM) (Q : Int32 → eM → Prop) : Prop := ((0 : Int32) = 0 ∨ (0 : Int32) = 1) ∧ Q (0 : Int32) M
set_option maxRecDepth 100000 in
theorem b_Mill_tiers_24 {d : Nat} {M : eM} {Q : Int32 → eM → Prop} (hd : 0 ≤ d) (h : w_Mill_tiers_24 M Q ) : e_E 30 d 0 0 24 [] [] M (e_QI Q) := by
  unfold w_Mill_tiers_24 at h
  refine r_iconst (kd30 rfl) (y := 0) (by decide) rfl ?_
  exact r_zreturn (kd30 rfl) R30 h.1 h.2
set_option maxRecDepth 100000 in
def w_Mill_tiers_47 (M : eM) (Q : Int32 → eM → Prop) : Prop := ((0 : Int32) = 0 ∨ (0 : Int32) = 1) ∧ Q (0 : Int32) M
set_option maxRecDepth 100000 in
theorem b_Mill_tiers_47 {d : Nat} {M : eM} {Q : Int32 → eM → Prop} (hd : 0 ≤ d) (h : w_Mill_tiers_47 M Q ) : e_E 30 d 0 0 47 [] [] M (e_QI Q) := by
  unfold w_Mill_tiers_47 at h
  refine r_iconst (kd30 rfl) (y := 0) (by decide) rfl ?_
  exact r_zreturn (kd30 rfl) R30 h.1 h.2
set_option maxRecDepth 100000 in
def w_Mill_tiers (l0 : Nat) (l1 : Int32) (l2 : Int32) (l3 : Int32) (l4 : Int32) (M : eM) (Q : Int32 → eM → Prop) : Prop := (l1 < 1 → w_Mill_tiers_24 M Q) ∧ (¬ l1 < 1 → (1000 < l1 → w_Mill_tiers_24 M Q) ∧ (¬ 1000 < l1 → (l2 < 1 → w_Mill_tiers_24 M Q) ∧ (¬ l2 < 1 → (l2 ≤ 1000 → (l3 < 0 → w_Mill_tiers_47 M Q) ∧ (¬ l3 < 0 → (4 < l3 → w_Mill_tiers_47 M Q) ∧ (¬ 4 < l3 → (l4 < 0 → w_Mill_tiers_47 M Q) ∧ (¬ l4 < 0 → (l4 ≤ 120 → e_ob M l0 11 ∧ e_ob M (gr M l0 3) 3 ∧ e_ob M (gr M (gr M l0 3) 2) 9 ∧ ∀ M1 : eM, M1 = e_si M (gr M (gr M l0 3) 2) 0 l1 → e_ob M1 (gr M (gr M l0 3) 2) 9 ∧ ∀ M2 : eM, M2 = e_si M1 (gr M (gr M l0 3) 2) 1 l2 → e_ob M2 (gr M (gr M l0 3) 2) 9 ∧ ∀ M3 : eM, M3 = e_si M2 (gr M (gr M l0 3) 2) 2 l3 → e_ob M3 (gr M (gr M l0 3) 2) 9 ∧ ∀ M4 : eM, M4 = e_si M3 (gr M (gr M l0 3) 2) 3 l4 → ((1 : Int32) = 0 ∨ (1 : Int32) = 1) ∧ Q (1 : Int32) M4) ∧ (¬ l4 ≤ 120 → w_Mill_tiers_47 M Q))))) ∧ (¬ l2 ≤ 1000 → w_Mill_tiers_24 M Q))))
set_option maxRecDepth 100000 in
theorem b_Mill_tiers {d : Nat} {l0 : Nat} {l1 : Int32} {l2 : Int32} {l3 : Int32} {l4 : Int32} {M : eM} {Q : Int32 → eM → Prop} (hd : 0 ≤ d) (h : w_Mill_tiers l0 l1 l2 l3 l4 M Q) : e_CI 30 d 0 0 [.ref l0, .int l1, .int l2, .int l3, .int l4] M Q := by
  unfold w_Mill_tiers at h
  show e_E 30 d 0 0 0 [(0, .ref l0), (1, .int l1), (2, .int l2), (3, .int l3), (4, .int l4)] [] M (e_QI Q)
  refine r_iload_n (kd30 rfl) rfl rfl ?_
  refine r_iconst (kd30 rfl) (y := 1) (by decide) rfl ?_
  refine r_icmp_lt (kd30 rfl) rfl (fun c => ?_) (fun c => ?_)
  · have h := h.1 c
    exact (b_Mill_tiers_24 hd h).less e_sn
  · have h := h.2 c
    refine r_iload_n (kd30 rfl) rfl rfl ?_
    refine r_sipush (kd30 rfl) (y := 1000) (by decide) rfl ?_
    refine r_icmp_gt (kd30 rfl) rfl (fun c => ?_) (fun c => ?_)
    · have h := h.1 c
      exact (b_Mill_tiers_24 hd h).less e_sn
    · have h := h.2 c
      refine r_iload_n (kd30 rfl) rfl rfl ?_
      refine r_iconst (kd30 rfl) (y := 1) (by decide) rfl ?_
      refine r_icmp_lt (kd30 rfl) rfl (fun c => ?_) (fun c => ?_)
      · have h := h.1 c
        exact (b_Mill_tiers_24 hd h).less e_sn
      · have h := h.2 c
        refine r_iload_n (kd30 rfl) rfl rfl ?_
        refine r_sipush (kd30 rfl) (y := 1000) (by decide) rfl ?_
        refine r_icmp_le (kd30 rfl) rfl (fun c => ?_) (fun c => ?_)
        · have h := h.1 c
          refine r_iload_n (kd30 rfl) rfl rfl ?_
          refine r_if_lt (kd30 rfl) rfl (fun c => ?_) (fun c => ?_)
          · have h := h.1 c
            exact (b_Mill_tiers_47 hd h).less e_sn
          · have h := h.2 c
            refine r_iload_n (kd30 rfl) rfl rfl ?_
            refine r_iconst (kd30 rfl) (y := 4) (by decide) rfl ?_
            refine r_icmp_gt (kd30 rfl) rfl (fun c => ?_) (fun c => ?_)
            · have h := h.1 c
              exact (b_Mill_tiers_47 hd h).less e_sn
            · have h := h.2 c
              refine r_iload (kd30 rfl) rfl rfl ?_
              refine r_if_lt (kd30 rfl) rfl (fun c => ?_) (fun c => ?_)
              · have h := h.1 c
                exact (b_Mill_tiers_47 hd h).less e_sn
              · have h := h.2 c
                refine r_iload (kd30 rfl) rfl rfl ?_
                refine r_bipush (kd30 rfl) (y := 120) (by decide) rfl ?_
                refine r_icmp_le (kd30 rfl) rfl (fun c => ?_) (fun c => ?_)
                · have h := h.1 c
                  refine r_aload_n (kd30 rfl) rfl rfl ?_
                  obtain ⟨g, h⟩ := h
                  refine r_get2 (kd30 rfl) (by decide) rfl g rfl ?_
                  obtain ⟨g, h⟩ := h
                  refine r_get2 (kd30 rfl) (by decide) rfl g rfl ?_
                  refine r_astore (kd30 rfl) L30 (by decide) rfl rfl ?_
                  refine r_aload (kd30 rfl) rfl rfl ?_
                  refine r_iload_n (kd30 rfl) rfl rfl ?_
                  obtain ⟨g, h⟩ := h
                  have h := h _ rfl
                  refine r_put0 (kd30 rfl) (by decide) rfl g rfl ?_
                  refine r_aload (kd30 rfl) rfl rfl ?_
                  refine r_iload_n (kd30 rfl) rfl rfl ?_
                  obtain ⟨g, h⟩ := h
                  have h := h _ rfl
                  refine r_put0 (kd30 rfl) (by decide) rfl g rfl ?_
                  refine r_aload (kd30 rfl) rfl rfl ?_
                  refine r_iload_n (kd30 rfl) rfl rfl ?_
                  obtain ⟨g, h⟩ := h
                  have h := h _ rfl
                  refine r_put0 (kd30 rfl) (by decide) rfl g rfl ?_
                  refine r_aload (kd30 rfl) rfl rfl ?_
                  refine r_iload (kd30 rfl) rfl rfl ?_
                  obtain ⟨g, h⟩ := h
                  have h := h _ rfl
                  refine r_put0 (kd30 rfl) (by decide) rfl g rfl ?_
                  refine r_iconst (kd30 rfl) (y := 1) (by decide) rfl ?_
                  exact r_zreturn (kd30 rfl) R30 h.1 h.2
                · have h := h.2 c
                  exact (b_Mill_tiers_47 hd h).less e_sn
        · have h := h.2 c
          exact (b_Mill_tiers_24 hd h).less e_sn
/-- TierMill.room(I)Z -/
theorem kd31 {pc : Nat} {q : eI} (h : e_d31.lookup pc = some q) : e_dec 31 pc = some q := h
theorem L31 : (e_m 31).2.2.1 = 2 := rfl
theorem R31 : (e_m 31).2.2.2.1 = (some .boolean) := rfl
def w_Mill_room_13 (M : eM) (Q : Int32 → eM → Prop) : Prop := ((0 : Int32) = 0 ∨ (0 : Int32) = 1) ∧ Q (0 : Int32) M
theorem b_Mill_room_13 {d : Nat} {M : eM} {Q : Int32 → eM → Prop} (hd : 0 ≤ d) (h : w_Mill_room_13 M Q ) : e_E 31 d 0 0 13 [] [] M (e_QI Q) := by
  unfold w_Mill_room_13 at h
  refine r_iconst (kd31 rfl) (y := 0) (by decide) rfl ?_
  exact r_zreturn (kd31 rfl) R31 h.1 h.2
def w_Mill_room (l0 : Nat) (l1 : Int32) (M : eM) (Q : Int32 → eM → Prop) : Prop := (l1 < 8 → w_Mill_room_13 M Q) ∧ (¬ l1 < 8 → (l1 ≤ 4000 → e_ob M l0 11 ∧ ∀ M1 : eM, M1 = e_si M l0 10 l1 → ((1 : Int32) = 0 ∨ (1 : Int32) = 1) ∧ Q (1 : Int32) M1) ∧ (¬ l1 ≤ 4000 → w_Mill_room_13 M Q))
theorem b_Mill_room {d : Nat} {l0 : Nat} {l1 : Int32} {M : eM} {Q : Int32 → eM → Prop} (hd : 0 ≤ d) (h : w_Mill_room l0 l1 M Q) : e_CI 31 d 0 0 [.ref l0, .int l1] M Q := by
  unfold w_Mill_room at h
  show e_E 31 d 0 0 0 [(0, .ref l0), (1, .int l1)] [] M (e_QI Q)
  refine r_iload_n (kd31 rfl) rfl rfl ?_
  refine r_bipush (kd31 rfl) (y := 8) (by decide) rfl ?_
  refine r_icmp_lt (kd31 rfl) rfl (fun c => ?_) (fun c => ?_)
  · have h := h.1 c
    exact (b_Mill_room_13 hd h).less e_sn
  · have h := h.2 c
    refine r_iload_n (kd31 rfl) rfl rfl ?_
    refine r_sipush (kd31 rfl) (y := 4000) (by decide) rfl ?_
    refine r_icmp_le (kd31 rfl) rfl (fun c => ?_) (fun c => ?_)
    · have h := h.1 c
      refine r_aload_n (kd31 rfl) rfl rfl ?_
      refine r_iload_n (kd31 rfl) rfl rfl ?_
      obtain ⟨g, h⟩ := h
      have h := h _ rfl
      refine r_put0 (kd31 rfl) (by decide) rfl g rfl ?_
      refine r_iconst (kd31 rfl) (y := 1) (by decide) rfl ?_
      exact r_zreturn (kd31 rfl) R31 h.1 h.2
    · have h := h.2 c
      exact (b_Mill_room_13 hd h).less e_sn
/-- TierMill.give(I)Z -/
theorem kd32 {pc : Nat} {q : eI} (h : e_d32.lookup pc = some q) : e_dec 32 pc = some q := h
theorem L32 : (e_m 32).2.2.1 = 2 := rfl
theorem R32 : (e_m 32).2.2.2.1 = (some .boolean) := rfl
def w_Mill_give (l0 : Nat) (l1 : Int32) (M : eM) (Q : Int32 → eM → Prop) : Prop := e_ob M l0 11 ∧ e_ob M (gr M l0 3) 3 ∧ w_Machine_takeInput (gr M l0 3) l1 M (fun (v2 : Int32) (M1 : eM) => (v2 = 0 ∨ v2 = 1) ∧ Q v2 M1)
theorem b_Mill_give {d : Nat} {l0 : Nat} {l1 : Int32} {M : eM} {Q : Int32 → eM → Prop} (hd : 2 ≤ d) (h : w_Mill_give l0 l1 M Q) : e_CI 32 d 0 0 [.ref l0, .int l1] M Q := by
  unfold w_Mill_give at h
  show e_E 32 d 0 0 0 [(0, .ref l0), (1, .int l1)] [] M (e_QI Q)
  refine r_aload_n (kd32 rfl) rfl rfl ?_
  obtain ⟨g, h⟩ := h
  refine r_get2 (kd32 rfl) (by decide) rfl g rfl ?_
  refine r_iload_n (kd32 rfl) rfl rfl ?_
  obtain ⟨g, h⟩ := h
  refine r_callVI (d' := d - 1) (by omega) (kd32 rfl) (by decide) rfl rfl rfl rfl (Nat.le_of_ble_eq_true rfl) rfl L5 (Nat.le_of_ble_eq_true rfl) (Nat.le_of_ble_eq_true rfl) g (Nat.zero_le _) (Nat.zero_le _) rfl rfl rfl (b_Machine_takeInput (by omega) h) (fun x1 M1 h => ?_)
  exact r_zreturn (kd32 rfl) R32 h.1 h.2
/-- TierMill.start(IIII)Z -/
theorem kd33 {pc : Nat} {q : eI} (h : e_d33.lookup pc = some q) : e_dec 33 pc = some q := h
theorem L33 : (e_m 33).2.2.1 = 7 := rfl
theorem R33 : (e_m 33).2.2.2.1 = (some .boolean) := rfl
set_option maxRecDepth 100000 in
def w_Mill_start (l0 : Nat) (l1 : Int32) (l2 : Int32) (l3 : Int32) (l4 : Int32) (M : eM) (Q : Int32 → eM → Prop) : Prop := e_ob M l0 11 ∧ (¬ (gi M l0 4) = 0 → e_ob M l0 11 ∧ e_ob M (gr M l0 5) 5 ∧ w_Program_methodAt (gr M l0 5) 0 M (fun (v2 : Nat) (M1 : eM) => e_ob M1 v2 8 ∧ ((gi M1 v2 1) ≤ 0 → e_ob M1 l0 11 ∧ False) ∧ (¬ (gi M1 v2 1) ≤ 0 → e_ob M1 v2 8 ∧ False))) ∧ ((gi M l0 4) = 0 → ((0 : Int32) = 0 ∨ (0 : Int32) = 1) ∧ Q (0 : Int32) M)
set_option maxRecDepth 100000 in
theorem b_Mill_start {d : Nat} {l0 : Nat} {l1 : Int32} {l2 : Int32} {l3 : Int32} {l4 : Int32} {M : eM} {Q : Int32 → eM → Prop} (hd : 1 ≤ d) (h : w_Mill_start l0 l1 l2 l3 l4 M Q) : e_CI 33 d 0 0 [.ref l0, .int l1, .int l2, .int l3, .int l4] M Q := by
  unfold w_Mill_start at h
  show e_E 33 d 0 0 0 [(0, .ref l0), (1, .int l1), (2, .int l2), (3, .int l3), (4, .int l4)] [] M (e_QI Q)
  refine r_aload_n (kd33 rfl) rfl rfl ?_
  obtain ⟨g, h⟩ := h
  refine r_get3 (kd33 rfl) (by decide) rfl g rfl ?_
  refine r_if_ne (kd33 rfl) rfl (fun c => ?_) (fun c => ?_)
  · have h := h.1 c
    refine r_aload_n (kd33 rfl) rfl rfl ?_
    obtain ⟨g, h⟩ := h
    refine r_get2 (kd33 rfl) (by decide) rfl g rfl ?_
    refine r_iconst (kd33 rfl) (y := 0) (by decide) rfl ?_
    obtain ⟨g, h⟩ := h
    refine r_callVR (d' := d - 1) (by omega) (kd33 rfl) (by decide) rfl rfl rfl rfl (Nat.le_of_ble_eq_true rfl) rfl L7 (Nat.le_of_ble_eq_true rfl) (Nat.le_of_ble_eq_true rfl) g (Nat.zero_le _) (Nat.zero_le _) rfl rfl rfl (b_Program_methodAt (by omega) h) (fun x1 M1 h => ?_)
    refine r_astore (kd33 rfl) L33 (by decide) rfl rfl ?_
    refine r_iconst (kd33 rfl) (y := 0) (by decide) rfl ?_
    refine r_istore (kd33 rfl) L33 (by decide) rfl rfl ?_
    refine r_iload (kd33 rfl) rfl rfl ?_
    refine r_aload (kd33 rfl) rfl rfl ?_
    obtain ⟨g, h⟩ := h
    refine r_get0 (kd33 rfl) (by decide) rfl g rfl ?_
    refine r_icmp_ge (kd33 rfl) rfl (fun c => ?_) (fun c => ?_)
    · have h := h.1 c
      refine r_aload_n (kd33 rfl) rfl rfl ?_
      obtain ⟨g, h⟩ := h
      refine r_get2 (kd33 rfl) (by decide) rfl g rfl ?_
      exact False.elim h
    · have h := h.2 c
      refine r_aload (kd33 rfl) rfl rfl ?_
      obtain ⟨g, h⟩ := h
      refine r_get2 (kd33 rfl) (by decide) rfl g rfl ?_
      refine r_iload (kd33 rfl) rfl rfl ?_
      exact False.elim h
  · have h := h.2 c
    refine r_iconst (kd33 rfl) (y := 0) (by decide) rfl ?_
    exact r_zreturn (kd33 rfl) R33 h.1 h.2
/-- TierMill.run(I)I -/
theorem kd34 {pc : Nat} {q : eI} (h : e_d34.lookup pc = some q) : e_dec 34 pc = some q := h
theorem L34 : (e_m 34).2.2.1 = 6 := rfl
theorem R34 : (e_m 34).2.2.2.1 = (some .int) := rfl
set_option maxRecDepth 100000 in
def w_Mill_run_12 (kc ks : Nat) (M : eM) (Q : Int32 → eM → Prop) (X : Nat → eM → Prop) : Prop := 1 ≤ kc ∧ 6 ≤ ks ∧ X 91 M
set_option maxRecDepth 100000 in
theorem b_Mill_run_12 {d : Nat} {kc ks : Nat} {M : eM} {Q : Int32 → eM → Prop} {X : Nat → eM → Prop} (hd : 0 ≤ d) (h : w_Mill_run_12 kc ks M Q X ) : e_E 34 d kc ks 12 [] [] M (e_QX Q X) := by
  unfold w_Mill_run_12 at h
  exact r_throw (kd34 rfl) (by decide) (by decide) h.1 h.2.1 (Or.inr ⟨_, rfl, h.2.2⟩)
set_option maxRecDepth 100000 in
def w_Mill_run (kc ks : Nat) (l0 : Nat) (l1 : Int32) (M : eM) (Q : Int32 → eM → Prop) (X : Nat → eM → Prop) : Prop := (l1 < 1 → w_Mill_run_12 kc ks M Q X) ∧ (¬ l1 < 1 → (l1 ≤ 2000 → e_ob M l0 11 ∧ e_ob M (gr M l0 3) 3 ∧ ((gi M (gr M l0 3) 7) = 1 → e_ob M l0 11 ∧ e_ob M (gr M l0 3) 3 ∧ (0 < (60000 - (gi M (gr M l0 3) 11)) → ((if (60000 - (gi M (gr M l0 3) 11)) < l1 then (60000 - (gi M (gr M l0 3) 11)) else l1) ≤ 0 → Q (if (60000 - (gi M (gr M l0 3) 11)) < l1 then (60000 - (gi M (gr M l0 3) 11)) else l1) M) ∧ (¬ (if (60000 - (gi M (gr M l0 3) 11)) < l1 then (60000 - (gi M (gr M l0 3) 11)) else l1) ≤ 0 → e_ob M l0 11 ∧ e_ob M (gr M l0 3) 3 ∧ ((gi M (gr M l0 3) 7) = 1 → e_ob M l0 11 ∧ False) ∧ (¬ (gi M (gr M l0 3) 7) = 1 → Q (0 : Int32) M))) ∧ (¬ 0 < (60000 - (gi M (gr M l0 3) 11)) → 1 ≤ kc ∧ 6 ≤ ks ∧ X 93 M)) ∧ (¬ (gi M (gr M l0 3) 7) = 1 → 1 ≤ kc ∧ 6 ≤ ks ∧ X 92 M)) ∧ (¬ l1 ≤ 2000 → w_Mill_run_12 kc ks M Q X))
set_option maxRecDepth 100000 in
theorem b_Mill_run {d : Nat} {kc ks : Nat} {l0 : Nat} {l1 : Int32} {M : eM} {Q : Int32 → eM → Prop} {X : Nat → eM → Prop} (hd : 0 ≤ d) (h : w_Mill_run kc ks l0 l1 M Q X) : e_C 34 d kc ks [.ref l0, .int l1] M (e_QX Q X) := by
  unfold w_Mill_run at h
  show e_E 34 d kc ks 0 [(0, .ref l0), (1, .int l1)] [] M (e_QX Q X)
  refine r_iload_n (kd34 rfl) rfl rfl ?_
  refine r_iconst (kd34 rfl) (y := 1) (by decide) rfl ?_
  refine r_icmp_lt (kd34 rfl) rfl (fun c => ?_) (fun c => ?_)
  · have h := h.1 c
    exact (b_Mill_run_12 hd h).less e_sn
  · have h := h.2 c
    refine r_iload_n (kd34 rfl) rfl rfl ?_
    refine r_sipush (kd34 rfl) (y := 2000) (by decide) rfl ?_
    refine r_icmp_le (kd34 rfl) rfl (fun c => ?_) (fun c => ?_)
    · have h := h.1 c
      refine r_aload_n (kd34 rfl) rfl rfl ?_
      obtain ⟨g, h⟩ := h
      refine r_get2 (kd34 rfl) (by decide) rfl g rfl ?_
      obtain ⟨g, h⟩ := h
      refine r_get0 (kd34 rfl) (by decide) rfl g rfl ?_
      refine r_iconst (kd34 rfl) (y := 1) (by decide) rfl ?_
      refine r_icmp_eq (kd34 rfl) rfl (fun c => ?_) (fun c => ?_)
      · have h := h.1 c
        refine r_ldc (kd34 rfl) (y := 60000) (by decide) rfl ?_
        refine r_aload_n (kd34 rfl) rfl rfl ?_
        obtain ⟨g, h⟩ := h
        refine r_get2 (kd34 rfl) (by decide) rfl g rfl ?_
        obtain ⟨g, h⟩ := h
        refine r_get0 (kd34 rfl) (by decide) rfl g rfl ?_
        refine r_isub (kd34 rfl) rfl ?_
        refine r_istore_n (kd34 rfl) L34 (by decide) rfl rfl ?_
        refine r_iload_n (kd34 rfl) rfl rfl ?_
        refine r_if_gt (kd34 rfl) rfl (fun c => ?_) (fun c => ?_)
        · have h := h.1 c
          refine r_iload_n (kd34 rfl) rfl rfl ?_
          refine r_iload_n (kd34 rfl) rfl rfl ?_
          refine r_mmin (kd34 rfl) (Nat.le_of_ble_eq_true rfl) rfl ?_
          refine r_istore_n (kd34 rfl) L34 (by decide) rfl rfl ?_
          refine r_iconst (kd34 rfl) (y := 0) (by decide) rfl ?_
          refine r_istore (kd34 rfl) L34 (by decide) rfl rfl ?_
          refine r_iload (kd34 rfl) rfl rfl ?_
          refine r_iload_n (kd34 rfl) rfl rfl ?_
          refine r_icmp_ge (kd34 rfl) rfl (fun c => ?_) (fun c => ?_)
          · have h := h.1 c
            refine r_iload_n (kd34 rfl) rfl rfl ?_
            exact r_ireturnX (kd34 rfl) R34 h
          · have h := h.2 c
            refine r_aload_n (kd34 rfl) rfl rfl ?_
            obtain ⟨g, h⟩ := h
            refine r_get2 (kd34 rfl) (by decide) rfl g rfl ?_
            obtain ⟨g, h⟩ := h
            refine r_get0 (kd34 rfl) (by decide) rfl g rfl ?_
            refine r_iconst (kd34 rfl) (y := 1) (by decide) rfl ?_
            refine r_icmp_eq (kd34 rfl) rfl (fun c => ?_) (fun c => ?_)
            · have h := h.1 c
              refine r_aload_n (kd34 rfl) rfl rfl ?_
              obtain ⟨g, h⟩ := h
              refine r_get2 (kd34 rfl) (by decide) rfl g rfl ?_
              exact False.elim h
            · have h := h.2 c
              refine r_iload (kd34 rfl) rfl rfl ?_
              exact r_ireturnX (kd34 rfl) R34 h
        · have h := h.2 c
          exact r_throw (kd34 rfl) (by decide) (by decide) h.1 h.2.1 (Or.inr ⟨_, rfl, h.2.2⟩)
      · have h := h.2 c
        exact r_throw (kd34 rfl) (by decide) (by decide) h.1 h.2.1 (Or.inr ⟨_, rfl, h.2.2⟩)
    · have h := h.2 c
      exact (b_Mill_run_12 hd h).less e_sn
/-- TierMill.state()I -/
theorem kd35 {pc : Nat} {q : eI} (h : e_d35.lookup pc = some q) : e_dec 35 pc = some q := h
theorem L35 : (e_m 35).2.2.1 = 1 := rfl
theorem R35 : (e_m 35).2.2.2.1 = (some .int) := rfl
def w_Mill_state (l0 : Nat) (M : eM) (Q : Int32 → eM → Prop) : Prop := e_ob M l0 11 ∧ e_ob M (gr M l0 3) 3 ∧ Q (gi M (gr M l0 3) 7) M
theorem b_Mill_state {d : Nat} {l0 : Nat} {M : eM} {Q : Int32 → eM → Prop} (hd : 0 ≤ d) (h : w_Mill_state l0 M Q) : e_CI 35 d 0 0 [.ref l0] M Q := by
  unfold w_Mill_state at h
  show e_E 35 d 0 0 0 [(0, .ref l0)] [] M (e_QI Q)
  refine r_aload_n (kd35 rfl) rfl rfl ?_
  obtain ⟨g, h⟩ := h
  refine r_get2 (kd35 rfl) (by decide) rfl g rfl ?_
  obtain ⟨g, h⟩ := h
  refine r_get0 (kd35 rfl) (by decide) rfl g rfl ?_
  exact r_ireturn (kd35 rfl) R35 h
/-- TierMill.result(I)I -/
theorem kd36 {pc : Nat} {q : eI} (h : e_d36.lookup pc = some q) : e_dec 36 pc = some q := h
theorem L36 : (e_m 36).2.2.1 = 2 := rfl
theorem R36 : (e_m 36).2.2.2.1 = (some .int) := rfl
def w_Mill_result (l0 : Nat) (l1 : Int32) (M : eM) (Q : Int32 → eM → Prop) : Prop := (l1 = 0 → e_ob M l0 11 ∧ e_ob M (gr M l0 3) 3 ∧ Q (gi M (gr M l0 3) 8) M) ∧ (¬ l1 = 0 → (l1 = 1 → e_ob M l0 11 ∧ e_ob M (gr M l0 3) 3 ∧ Q (gi M (gr M l0 3) 9) M) ∧ (¬ l1 = 1 → Q ((-1) : Int32) M))
theorem b_Mill_result {d : Nat} {l0 : Nat} {l1 : Int32} {M : eM} {Q : Int32 → eM → Prop} (hd : 0 ≤ d) (h : w_Mill_result l0 l1 M Q) : e_CI 36 d 0 0 [.ref l0, .int l1] M Q := by
  unfold w_Mill_result at h
  show e_E 36 d 0 0 0 [(0, .ref l0), (1, .int l1)] [] M (e_QI Q)
  refine r_iload_n (kd36 rfl) rfl rfl ?_
  refine r_lookupswitch (kd36 rfl) (u := 44) (qs := [(0, 28), (1, 36)]) rfl rfl (by decide) ?_
  refine ⟨fun c => ?_, fun c => ?_⟩
  · have h := h.1 c
    refine r_aload_n (kd36 rfl) rfl rfl ?_
    obtain ⟨g, h⟩ := h
    refine r_get2 (kd36 rfl) (by decide) rfl g rfl ?_
    obtain ⟨g, h⟩ := h
    refine r_get0 (kd36 rfl) (by decide) rfl g rfl ?_
    exact r_ireturn (kd36 rfl) R36 h
  have h := h.2 c
  refine ⟨fun c => ?_, fun c => ?_⟩
  · have h := h.1 c
    refine r_aload_n (kd36 rfl) rfl rfl ?_
    obtain ⟨g, h⟩ := h
    refine r_get2 (kd36 rfl) (by decide) rfl g rfl ?_
    obtain ⟨g, h⟩ := h
    refine r_get0 (kd36 rfl) (by decide) rfl g rfl ?_
    exact r_ireturn (kd36 rfl) R36 h
  have h := h.2 c
  show e_E 36 _ _ _ 44 _ _ _ _
  refine r_iconst (kd36 rfl) (y := (-1)) (by decide) rfl ?_
  exact r_ireturn (kd36 rfl) R36 h
/-- TierMill.output(I)I -/
theorem kd37 {pc : Nat} {q : eI} (h : e_d37.lookup pc = some q) : e_dec 37 pc = some q := h
theorem L37 : (e_m 37).2.2.1 = 2 := rfl
theorem R37 : (e_m 37).2.2.2.1 = (some .int) := rfl
def w_Mill_output_22 (kc ks : Nat) (M : eM) (Q : Int32 → eM → Prop) (X : Nat → eM → Prop) : Prop := 1 ≤ kc ∧ 6 ≤ ks ∧ X 94 M
theorem b_Mill_output_22 {d : Nat} {kc ks : Nat} {M : eM} {Q : Int32 → eM → Prop} {X : Nat → eM → Prop} (hd : 0 ≤ d) (h : w_Mill_output_22 kc ks M Q X ) : e_E 37 d kc ks 22 [] [] M (e_QX Q X) := by
  unfold w_Mill_output_22 at h
  exact r_throw (kd37 rfl) (by decide) (by decide) h.1 h.2.1 (Or.inr ⟨_, rfl, h.2.2⟩)
def w_Mill_output (kc ks : Nat) (l0 : Nat) (l1 : Int32) (M : eM) (Q : Int32 → eM → Prop) (X : Nat → eM → Prop) : Prop := (l1 < 0 → w_Mill_output_22 kc ks M Q X) ∧ (¬ l1 < 0 → e_ob M l0 11 ∧ e_ob M (gr M l0 3) 3 ∧ ((gi M (gr M l0 3) 6) ≤ l1 → w_Mill_output_22 kc ks M Q X) ∧ (¬ (gi M (gr M l0 3) 6) ≤ l1 → (l1 < 500 → e_ob M l0 11 ∧ e_ob M (gr M l0 3) 3 ∧ False) ∧ (¬ l1 < 500 → w_Mill_output_22 kc ks M Q X)))
theorem b_Mill_output {d : Nat} {kc ks : Nat} {l0 : Nat} {l1 : Int32} {M : eM} {Q : Int32 → eM → Prop} {X : Nat → eM → Prop} (hd : 0 ≤ d) (h : w_Mill_output kc ks l0 l1 M Q X) : e_C 37 d kc ks [.ref l0, .int l1] M (e_QX Q X) := by
  unfold w_Mill_output at h
  show e_E 37 d kc ks 0 [(0, .ref l0), (1, .int l1)] [] M (e_QX Q X)
  refine r_iload_n (kd37 rfl) rfl rfl ?_
  refine r_if_lt (kd37 rfl) rfl (fun c => ?_) (fun c => ?_)
  · have h := h.1 c
    exact (b_Mill_output_22 hd h).less e_sn
  · have h := h.2 c
    refine r_iload_n (kd37 rfl) rfl rfl ?_
    refine r_aload_n (kd37 rfl) rfl rfl ?_
    obtain ⟨g, h⟩ := h
    refine r_get2 (kd37 rfl) (by decide) rfl g rfl ?_
    obtain ⟨g, h⟩ := h
    refine r_get0 (kd37 rfl) (by decide) rfl g rfl ?_
    refine r_icmp_ge (kd37 rfl) rfl (fun c => ?_) (fun c => ?_)
    · have h := h.1 c
      exact (b_Mill_output_22 hd h).less e_sn
    · have h := h.2 c
      refine r_iload_n (kd37 rfl) rfl rfl ?_
      refine r_sipush (kd37 rfl) (y := 500) (by decide) rfl ?_
      refine r_icmp_lt (kd37 rfl) rfl (fun c => ?_) (fun c => ?_)
      · have h := h.1 c
        refine r_aload_n (kd37 rfl) rfl rfl ?_
        obtain ⟨g, h⟩ := h
        refine r_get2 (kd37 rfl) (by decide) rfl g rfl ?_
        obtain ⟨g, h⟩ := h
        refine r_get2 (kd37 rfl) (by decide) rfl g rfl ?_
        refine r_iload_n (kd37 rfl) rfl rfl ?_
        exact False.elim h
      · have h := h.2 c
        exact (b_Mill_output_22 hd h).less e_sn
/-- TierMill.frame(II)I -/
theorem kd38 {pc : Nat} {q : eI} (h : e_d38.lookup pc = some q) : e_dec 38 pc = some q := h
theorem L38 : (e_m 38).2.2.1 = 5 := rfl
theorem R38 : (e_m 38).2.2.2.1 = (some .int) := rfl
set_option maxRecDepth 100000 in
def w_Mill_frame (l0 : Nat) (l1 : Int32) (l2 : Int32) (M : eM) (Q : Int32 → eM → Prop) : Prop := e_ob M l0 11 ∧ e_ob M (gr M l0 3) 3 ∧ e_ob M (gr M (gr M l0 3) 0) 1 ∧ w_Frames_fromLatest (gr M (gr M l0 3) 0) l1 M (fun (v2 : Int32) (M1 : eM) => (¬ v2 = (-1) → (l2 = 0 → e_ob M1 (gr M (gr M l0 3) 0) 1 ∧ False) ∧ (¬ l2 = 0 → (l2 = 1 → e_ob M1 (gr M (gr M l0 3) 0) 1 ∧ False) ∧ (¬ l2 = 1 → (l2 = 2 → e_ob M1 (gr M (gr M l0 3) 0) 1 ∧ False) ∧ (¬ l2 = 2 → (l2 = 3 → e_ob M1 (gr M (gr M l0 3) 0) 1 ∧ False) ∧ (¬ l2 = 3 → Q ((-1) : Int32) M1))))) ∧ (v2 = (-1) → Q ((-1) : Int32) M1))
set_option maxRecDepth 100000 in
theorem b_Mill_frame {d : Nat} {l0 : Nat} {l1 : Int32} {l2 : Int32} {M : eM} {Q : Int32 → eM → Prop} (hd : 1 ≤ d) (h : w_Mill_frame l0 l1 l2 M Q) : e_CI 38 d 0 0 [.ref l0, .int l1, .int l2] M Q := by
  unfold w_Mill_frame at h
  show e_E 38 d 0 0 0 [(0, .ref l0), (1, .int l1), (2, .int l2)] [] M (e_QI Q)
  refine r_aload_n (kd38 rfl) rfl rfl ?_
  obtain ⟨g, h⟩ := h
  refine r_get2 (kd38 rfl) (by decide) rfl g rfl ?_
  obtain ⟨g, h⟩ := h
  refine r_get2 (kd38 rfl) (by decide) rfl g rfl ?_
  refine r_astore_n (kd38 rfl) L38 (by decide) rfl rfl ?_
  refine r_aload_n (kd38 rfl) rfl rfl ?_
  refine r_iload_n (kd38 rfl) rfl rfl ?_
  obtain ⟨g, h⟩ := h
  refine r_callVI (d' := d - 1) (by omega) (kd38 rfl) (by decide) rfl rfl rfl rfl (Nat.le_of_ble_eq_true rfl) rfl L2 (Nat.le_of_ble_eq_true rfl) (Nat.le_of_ble_eq_true rfl) g (Nat.zero_le _) (Nat.zero_le _) rfl rfl rfl (b_Frames_fromLatest (by omega) h) (fun x1 M1 h => ?_)
  refine r_istore (kd38 rfl) L38 (by decide) rfl rfl ?_
  refine r_iload (kd38 rfl) rfl rfl ?_
  refine r_iconst (kd38 rfl) (y := (-1)) (by decide) rfl ?_
  refine r_icmp_ne (kd38 rfl) rfl (fun c => ?_) (fun c => ?_)
  · have h := h.1 c
    refine r_iload_n (kd38 rfl) rfl rfl ?_
    refine r_tableswitch (kd38 rfl) (u := 96) (qs := [(0, 56), (1, 66), (2, 76), (3, 86)]) rfl rfl rfl (by decide) ?_
    refine ⟨fun c => ?_, fun c => ?_⟩
    · have h := h.1 c
      refine r_aload_n (kd38 rfl) rfl rfl ?_
      obtain ⟨g, h⟩ := h
      refine r_get2 (kd38 rfl) (by decide) rfl g rfl ?_
      refine r_iload (kd38 rfl) rfl rfl ?_
      exact False.elim h
    have h := h.2 c
    refine ⟨fun c => ?_, fun c => ?_⟩
    · have h := h.1 c
      refine r_aload_n (kd38 rfl) rfl rfl ?_
      obtain ⟨g, h⟩ := h
      refine r_get2 (kd38 rfl) (by decide) rfl g rfl ?_
      refine r_iload (kd38 rfl) rfl rfl ?_
      exact False.elim h
    have h := h.2 c
    refine ⟨fun c => ?_, fun c => ?_⟩
    · have h := h.1 c
      refine r_aload_n (kd38 rfl) rfl rfl ?_
      obtain ⟨g, h⟩ := h
      refine r_get2 (kd38 rfl) (by decide) rfl g rfl ?_
      refine r_iload (kd38 rfl) rfl rfl ?_
      exact False.elim h
    have h := h.2 c
    refine ⟨fun c => ?_, fun c => ?_⟩
    · have h := h.1 c
      refine r_aload_n (kd38 rfl) rfl rfl ?_
      obtain ⟨g, h⟩ := h
      refine r_get2 (kd38 rfl) (by decide) rfl g rfl ?_
      refine r_iload (kd38 rfl) rfl rfl ?_
      exact False.elim h
    have h := h.2 c
    show e_E 38 _ _ _ 96 _ _ _ _
    refine r_iconst (kd38 rfl) (y := (-1)) (by decide) rfl ?_
    exact r_ireturn (kd38 rfl) R38 h
  · have h := h.2 c
    refine r_iconst (kd38 rfl) (y := (-1)) (by decide) rfl ?_
    exact r_ireturn (kd38 rfl) R38 h
/-- TierMill.seenSlot(II)I -/
theorem kd41 {pc : Nat} {q : eI} (h : e_d41.lookup pc = some q) : e_dec 41 pc = some q := h
theorem L41 : (e_m 41).2.2.1 = 5 := rfl
theorem R41 : (e_m 41).2.2.2.1 = (some .int) := rfl
set_option maxRecDepth 100000 in
def w_Mill_seenSlot (l0 : Nat) (l1 : Int32) (l2 : Int32) (M : eM) (Q : Int32 → eM → Prop) : Prop := (¬ l1 = (-1) → e_ob M l0 11 ∧ e_ob M (gr M l0 3) 3 ∧ e_ob M l0 11 ∧ e_ob M (gr M (gr M l0 3) 0) 1 ∧ False) ∧ (l1 = (-1) → Q ((-1) : Int32) M)
set_option maxRecDepth 100000 in
theorem b_Mill_seenSlot {d : Nat} {l0 : Nat} {l1 : Int32} {l2 : Int32} {M : eM} {Q : Int32 → eM → Prop} (hd : 0 ≤ d) (h : w_Mill_seenSlot l0 l1 l2 M Q) : e_CI 41 d 0 0 [.ref l0, .int l1, .int l2] M Q := by
  unfold w_Mill_seenSlot at h
  show e_E 41 d 0 0 0 [(0, .ref l0), (1, .int l1), (2, .int l2)] [] M (e_QI Q)
  refine r_iload_n (kd41 rfl) rfl rfl ?_
  refine r_iconst (kd41 rfl) (y := (-1)) (by decide) rfl ?_
  refine r_icmp_ne (kd41 rfl) rfl (fun c => ?_) (fun c => ?_)
  · have h := h.1 c
    refine r_aload_n (kd41 rfl) rfl rfl ?_
    obtain ⟨g, h⟩ := h
    refine r_get2 (kd41 rfl) (by decide) rfl g rfl ?_
    obtain ⟨g, h⟩ := h
    refine r_get2 (kd41 rfl) (by decide) rfl g rfl ?_
    refine r_astore_n (kd41 rfl) L41 (by decide) rfl rfl ?_
    refine r_iload_n (kd41 rfl) rfl rfl ?_
    refine r_aload_n (kd41 rfl) rfl rfl ?_
    obtain ⟨g, h⟩ := h
    refine r_get2 (kd41 rfl) (by decide) rfl g rfl ?_
    refine r_aload_n (kd41 rfl) rfl rfl ?_
    obtain ⟨g, h⟩ := h
    refine r_get2 (kd41 rfl) (by decide) rfl g rfl ?_
    refine r_iload_n (kd41 rfl) rfl rfl ?_
    exact False.elim h
  · have h := h.2 c
    refine r_iconst (kd41 rfl) (y := (-1)) (by decide) rfl ?_
    exact r_ireturn (kd41 rfl) R41 h
