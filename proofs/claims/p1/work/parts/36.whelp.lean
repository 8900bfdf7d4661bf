theorem kd79 {pc : Nat} {q : eI} (h : e_d79.lookup pc = some q) : e_dec 79 pc = some q := h
theorem L79 : (e_m 79).2.2.1 = 3 := rfl
theorem R79 : (e_m 79).2.2.2.1 = (some .int) := rfl
def w_Law_load (kc ks : Nat) (l0 : Nat) (l1 : Nat) (M : eM) (Q : Int32 → eM → Prop) : Prop := e_ob M l0 11 ∧ w_Mill_load kc ks l0  M (fun v M1 => e_ar M1 l1 21 0 ∧ ∀ M2 : eM, M2 = e_sl M1 l1 0 v.toInt64 → Q 0 M2) (fun a M1 => (a = 91 → ∀ g : Nat, Q 1 (e_gap M1 g)) ∧ (a = 91))
theorem b_Law_load {d kc ks : Nat} {l0 : Nat} {l1 : Nat} {M : eM} {Q : Int32 → eM → Prop} (hd : 11 ≤ d) (h : w_Law_load kc ks l0  l1 M Q) (am : eAm) (ht : e_tab am 79) : e_F am 79 d kc ks 0 (lv_args 0 [.ref l0, .ref l1]) [] M (e_QI Q) := by
  obtain ⟨g, h⟩ := h
  show e_F am 79 d kc ks 0 [(0, .ref l0), (1, .ref l1)] [] M (e_QI Q)
  refine f_aload_n (kd79 rfl) rfl rfl ?_
  refine f_iconst (kd79 rfl) (y := 0) (by decide) rfl ?_
  refine f_aload_n (kd79 rfl) rfl rfl ?_
  refine f_callX (d' := d - 1) (by decide) rfl ht R79 (by omega) (by omega) (kd79 rfl) (by decide) rfl rfl (Nat.le_of_ble_eq_true rfl) (Nat.le_of_ble_eq_true rfl) (Nat.le_of_ble_eq_true rfl) g (Nat.le_refl _) (Nat.le_refl _) (b_Mill_load (by omega) h) ?_ ?_
  · rintro v M1 ⟨⟨x, rfl, g1, h⟩ | ⟨t, rfl, h⟩, hn⟩
    · have h := h _ rfl
      refine f_i2l (kd79 rfl) rfl ?_
      refine f_lastore (kd79 rfl) g1 rfl ?_
      refine f_goto (kd79 rfl) ?_
      refine f_iconst (kd79 rfl) (y := 0) (by decide) rfl ?_
      exact f_ireturn (kd79 rfl) R79 h
    · exact absurd rfl (hn t)
  · rintro a M1 - - (⟨x, z, -⟩ | ⟨t, z, h⟩)
    · cases z
    · cases z
      obtain ⟨h91, h⟩ := h
      subst h
      exact ⟨_, _, rfl, fun g => ⟨_, rfl, h91 rfl g⟩⟩
theorem kd80 {pc : Nat} {q : eI} (h : e_d80.lookup pc = some q) : e_dec 80 pc = some q := h
theorem L80 : (e_m 80).2.2.1 = 4 := rfl
theorem R80 : (e_m 80).2.2.2.1 = (some .int) := rfl
def w_Law_run (kc ks : Nat) (l0 : Nat) (l1 : Int32) (l2 : Nat) (M : eM) (Q : Int32 → eM → Prop) : Prop := e_ob M l0 11 ∧ w_Mill_run kc ks l0 l1 M (fun v M1 => e_ar M1 l2 21 0 ∧ ∀ M2 : eM, M2 = e_sl M1 l2 0 v.toInt64 → Q 0 M2) (fun a M1 => (a = 91 → ∀ g : Nat, Q 1 (e_gap M1 g)) ∧ (a = 92 → ∀ g : Nat, Q 2 (e_gap M1 g)) ∧ (a = 93 → ∀ g : Nat, Q 3 (e_gap M1 g)) ∧ (a = 91 ∨ a = 92 ∨ a = 93))
theorem b_Law_run {d kc ks : Nat} {l0 : Nat} {l1 : Int32} {l2 : Nat} {M : eM} {Q : Int32 → eM → Prop} (hd : 6 ≤ d) (h : w_Law_run kc ks l0 l1 l2 M Q) (am : eAm) (ht : e_tab am 80) : e_F am 80 d kc ks 0 (lv_args 0 [.ref l0, .int l1, .ref l2]) [] M (e_QI Q) := by
  obtain ⟨g, h⟩ := h
  show e_F am 80 d kc ks 0 [(0, .ref l0), (1, .int l1), (2, .ref l2)] [] M (e_QI Q)
  refine f_aload_n (kd80 rfl) rfl rfl ?_
  refine f_iconst (kd80 rfl) (y := 0) (by decide) rfl ?_
  refine f_aload_n (kd80 rfl) rfl rfl ?_
  refine f_iload_n (kd80 rfl) rfl rfl ?_
  refine f_callX (d' := d - 1) (by decide) rfl ht R80 (by omega) (by omega) (kd80 rfl) (by decide) rfl rfl (Nat.le_of_ble_eq_true rfl) (Nat.le_of_ble_eq_true rfl) (Nat.le_of_ble_eq_true rfl) g (Nat.le_refl _) (Nat.le_refl _) (b_Mill_run (by omega) h) ?_ ?_
  · rintro v M1 ⟨⟨x, rfl, g1, h⟩ | ⟨t, rfl, h⟩, hn⟩
    · have h := h _ rfl
      refine f_i2l (kd80 rfl) rfl ?_
      refine f_lastore (kd80 rfl) g1 rfl ?_
      refine f_goto (kd80 rfl) ?_
      refine f_iconst (kd80 rfl) (y := 0) (by decide) rfl ?_
      exact f_ireturn (kd80 rfl) R80 h
    · exact absurd rfl (hn t)
  · rintro a M1 - - (⟨x, z, -⟩ | ⟨t, z, h⟩)
    · cases z
    · cases z
      obtain ⟨h91, h92, h93, h⟩ := h
      rcases h with rfl | rfl | rfl
      · exact ⟨_, _, rfl, fun g => ⟨_, rfl, h91 rfl g⟩⟩
      · exact ⟨_, _, rfl, fun g => ⟨_, rfl, h92 rfl g⟩⟩
      · exact ⟨_, _, rfl, fun g => ⟨_, rfl, h93 rfl g⟩⟩
theorem kd81 {pc : Nat} {q : eI} (h : e_d81.lookup pc = some q) : e_dec 81 pc = some q := h
theorem L81 : (e_m 81).2.2.1 = 4 := rfl
theorem R81 : (e_m 81).2.2.2.1 = (some .int) := rfl
def w_Law_output (kc ks : Nat) (l0 : Nat) (l1 : Int32) (l2 : Nat) (M : eM) (Q : Int32 → eM → Prop) : Prop := e_ob M l0 11 ∧ w_Mill_output kc ks l0 l1 M (fun v M1 => e_ar M1 l2 21 0 ∧ ∀ M2 : eM, M2 = e_sl M1 l2 0 v.toInt64 → Q 0 M2) (fun a M1 => (a = 94 → ∀ g : Nat, Q 1 (e_gap M1 g)) ∧ (a = 94))
theorem b_Law_output {d kc ks : Nat} {l0 : Nat} {l1 : Int32} {l2 : Nat} {M : eM} {Q : Int32 → eM → Prop} (hd : 6 ≤ d) (h : w_Law_output kc ks l0 l1 l2 M Q) (am : eAm) (ht : e_tab am 81) : e_F am 81 d kc ks 0 (lv_args 0 [.ref l0, .int l1, .ref l2]) [] M (e_QI Q) := by
  obtain ⟨g, h⟩ := h
  show e_F am 81 d kc ks 0 [(0, .ref l0), (1, .int l1), (2, .ref l2)] [] M (e_QI Q)
  refine f_aload_n (kd81 rfl) rfl rfl ?_
  refine f_iconst (kd81 rfl) (y := 0) (by decide) rfl ?_
  refine f_aload_n (kd81 rfl) rfl rfl ?_
  refine f_iload_n (kd81 rfl) rfl rfl ?_
  refine f_callX (d' := d - 1) (by decide) rfl ht R81 (by omega) (by omega) (kd81 rfl) (by decide) rfl rfl (Nat.le_of_ble_eq_true rfl) (Nat.le_of_ble_eq_true rfl) (Nat.le_of_ble_eq_true rfl) g (Nat.le_refl _) (Nat.le_refl _) (b_Mill_output (by omega) h) ?_ ?_
  · rintro v M1 ⟨⟨x, rfl, g1, h⟩ | ⟨t, rfl, h⟩, hn⟩
    · have h := h _ rfl
      refine f_i2l (kd81 rfl) rfl ?_
      refine f_lastore (kd81 rfl) g1 rfl ?_
      refine f_goto (kd81 rfl) ?_
      refine f_iconst (kd81 rfl) (y := 0) (by decide) rfl ?_
      exact f_ireturn (kd81 rfl) R81 h
    · exact absurd rfl (hn t)
  · rintro a M1 - - (⟨x, z, -⟩ | ⟨t, z, h⟩)
    · cases z
    · cases z
      obtain ⟨h94, h⟩ := h
      subst h
      exact ⟨_, _, rfl, fun g => ⟨_, rfl, h94 rfl g⟩⟩
theorem kd82 {pc : Nat} {q : eI} (h : e_d82.lookup pc = some q) : e_dec 82 pc = some q := h
theorem L82 : (e_m 82).2.2.1 = 5 := rfl
theorem R82 : (e_m 82).2.2.2.1 = (some .int) := rfl
def w_Law_local (kc ks : Nat) (l0 : Nat) (l1 : Int32) (l2 : Int32) (l3 : Nat) (M : eM) (Q : Int32 → eM → Prop) : Prop := e_ob M l0 11 ∧ w_Mill_local kc ks l0 l1 l2 M (fun v M1 => e_ar M1 l3 21 0 ∧ ∀ M2 : eM, M2 = e_sl M1 l3 0 v.toInt64 → Q 0 M2) (fun a M1 => (a = 94 → ∀ g : Nat, Q 1 (e_gap M1 g)) ∧ (a = 94))
theorem b_Law_local {d kc ks : Nat} {l0 : Nat} {l1 : Int32} {l2 : Int32} {l3 : Nat} {M : eM} {Q : Int32 → eM → Prop} (hd : 7 ≤ d) (h : w_Law_local kc ks l0 l1 l2 l3 M Q) (am : eAm) (ht : e_tab am 82) : e_F am 82 d kc ks 0 (lv_args 0 [.ref l0, .int l1, .int l2, .ref l3]) [] M (e_QI Q) := by
  obtain ⟨g, h⟩ := h
  show e_F am 82 d kc ks 0 [(0, .ref l0), (1, .int l1), (2, .int l2), (3, .ref l3)] [] M (e_QI Q)
  refine f_aload_n (kd82 rfl) rfl rfl ?_
  refine f_iconst (kd82 rfl) (y := 0) (by decide) rfl ?_
  refine f_aload_n (kd82 rfl) rfl rfl ?_
  refine f_iload_n (kd82 rfl) rfl rfl ?_
  refine f_iload_n (kd82 rfl) rfl rfl ?_
  refine f_callX (d' := d - 1) (by decide) rfl ht R82 (by omega) (by omega) (kd82 rfl) (by decide) rfl rfl (Nat.le_of_ble_eq_true rfl) (Nat.le_of_ble_eq_true rfl) (Nat.le_of_ble_eq_true rfl) g (Nat.le_refl _) (Nat.le_refl _) (b_Mill_local (by omega) h) ?_ ?_
  · rintro v M1 ⟨⟨x, rfl, g1, h⟩ | ⟨t, rfl, h⟩, hn⟩
    · have h := h _ rfl
      refine f_i2l (kd82 rfl) rfl ?_
      refine f_lastore (kd82 rfl) g1 rfl ?_
      refine f_goto (kd82 rfl) ?_
      refine f_iconst (kd82 rfl) (y := 0) (by decide) rfl ?_
      exact f_ireturn (kd82 rfl) R82 h
    · exact absurd rfl (hn t)
  · rintro a M1 - - (⟨x, z, -⟩ | ⟨t, z, h⟩)
    · cases z
    · cases z
      obtain ⟨h94, h⟩ := h
      subst h
      exact ⟨_, _, rfl, fun g => ⟨_, rfl, h94 rfl g⟩⟩
theorem kd83 {pc : Nat} {q : eI} (h : e_d83.lookup pc = some q) : e_dec 83 pc = some q := h
theorem L83 : (e_m 83).2.2.1 = 6 := rfl
theorem R83 : (e_m 83).2.2.2.1 = (some .int) := rfl
def w_Law_part (kc ks : Nat) (l0 : Nat) (l1 : Int32) (l2 : Int32) (l3 : Int32) (l4 : Nat) (M : eM) (Q : Int32 → eM → Prop) : Prop := e_ob M l0 11 ∧ w_Mill_part kc ks l0 l1 l2 l3 M (fun v M1 => e_ar M1 l4 21 0 ∧ ∀ M2 : eM, M2 = e_sl M1 l4 0 v.toInt64 → Q 0 M2) (fun a M1 => (a = 94 → ∀ g : Nat, Q 1 (e_gap M1 g)) ∧ (a = 94))
theorem b_Law_part {d kc ks : Nat} {l0 : Nat} {l1 : Int32} {l2 : Int32} {l3 : Int32} {l4 : Nat} {M : eM} {Q : Int32 → eM → Prop} (hd : 7 ≤ d) (h : w_Law_part kc ks l0 l1 l2 l3 l4 M Q) (am : eAm) (ht : e_tab am 83) : e_F am 83 d kc ks 0 (lv_args 0 [.ref l0, .int l1, .int l2, .int l3, .ref l4]) [] M (e_QI Q) := by
  obtain ⟨g, h⟩ := h
  show e_F am 83 d kc ks 0 [(0, .ref l0), (1, .int l1), (2, .int l2), (3, .int l3), (4, .ref l4)] [] M (e_QI Q)
  refine f_aload (kd83 rfl) rfl rfl ?_
  refine f_iconst (kd83 rfl) (y := 0) (by decide) rfl ?_
  refine f_aload_n (kd83 rfl) rfl rfl ?_
  refine f_iload_n (kd83 rfl) rfl rfl ?_
  refine f_iload_n (kd83 rfl) rfl rfl ?_
  refine f_iload_n (kd83 rfl) rfl rfl ?_
  refine f_callX (d' := d - 1) (by decide) rfl ht R83 (by omega) (by omega) (kd83 rfl) (by decide) rfl rfl (Nat.le_of_ble_eq_true rfl) (Nat.le_of_ble_eq_true rfl) (Nat.le_of_ble_eq_true rfl) g (Nat.le_refl _) (Nat.le_refl _) (b_Mill_part (by omega) h) ?_ ?_
  · rintro v M1 ⟨⟨x, rfl, g1, h⟩ | ⟨t, rfl, h⟩, hn⟩
    · have h := h _ rfl
      refine f_i2l (kd83 rfl) rfl ?_
      refine f_lastore (kd83 rfl) g1 rfl ?_
      refine f_goto (kd83 rfl) ?_
      refine f_iconst (kd83 rfl) (y := 0) (by decide) rfl ?_
      exact f_ireturn (kd83 rfl) R83 h
    · exact absurd rfl (hn t)
  · rintro a M1 - - (⟨x, z, -⟩ | ⟨t, z, h⟩)
    · cases z
    · cases z
      obtain ⟨h94, h⟩ := h
      subst h
      exact ⟨_, _, rfl, fun g => ⟨_, rfl, h94 rfl g⟩⟩
