theorem kd236 {pc : Nat} {q : eI} (h : e_d236.lookup pc = some q) : e_dec 236 pc = some q := h
theorem L236 : (e_m 236).2.2.1 = 3 := rfl
theorem R236 : (e_m 236).2.2.2.1 = (some .int) := rfl
def w_Law_load (kc ks : Nat) (l0 : Nat) (l1 : Nat) (M : eM) (Q : Int32 → eM → Prop) : Prop := e_ob M l0 11 ∧ w_Mill_load kc ks l0  M (fun v M1 => e_ar M1 l1 21 0 ∧ ∀ M2 : eM, M2 = e_sl M1 l1 0 v.toInt64 → Q 0 M2) (fun a M1 => (a = 91 → ∀ g : Nat, Q 1 (e_gap M1 g)) ∧ (a = 91))
theorem b_Law_load {d kc ks : Nat} {l0 : Nat} {l1 : Nat} {M : eM} {Q : Int32 → eM → Prop} (hd : 13 ≤ d) (h : w_Law_load kc ks l0  l1 M Q) (am : eAm) (ht : e_tab am 236) : e_F am 236 d kc ks 0 (lv_args 0 [.ref l0, .ref l1]) [] M (e_QI Q) := by
  obtain ⟨g, h⟩ := h
  show e_F am 236 d kc ks 0 [(0, .ref l0), (1, .ref l1)] [] M (e_QI Q)
  refine f_aload_n (kd236 rfl) rfl rfl ?_
  refine f_iconst (kd236 rfl) (y := 0) (by decide) rfl ?_
  refine f_aload_n (kd236 rfl) rfl rfl ?_
  refine f_callX (d' := d - 1) (by decide) rfl ht R236 (by omega) (by omega) (kd236 rfl) (by decide) rfl rfl (Nat.le_of_ble_eq_true rfl) (Nat.le_of_ble_eq_true rfl) (Nat.le_of_ble_eq_true rfl) g (Nat.le_refl _) (Nat.le_refl _) (b_Mill_load (by omega) h) ?_ ?_
  · rintro v M1 ⟨⟨x, rfl, g1, h⟩ | ⟨t, rfl, h⟩, hn⟩
    · have h := h _ rfl
      refine f_i2l (kd236 rfl) rfl ?_
      refine f_lastore (kd236 rfl) g1 rfl ?_
      refine f_goto (kd236 rfl) ?_
      refine f_iconst (kd236 rfl) (y := 0) (by decide) rfl ?_
      exact f_ireturn (kd236 rfl) R236 h
    · exact absurd rfl (hn t)
  · rintro a M1 - - (⟨x, z, -⟩ | ⟨t, z, h⟩)
    · cases z
    · cases z
      obtain ⟨h91, h⟩ := h
      subst h
      exact ⟨_, _, rfl, fun g => ⟨_, rfl, h91 rfl g⟩⟩
theorem kd237 {pc : Nat} {q : eI} (h : e_d237.lookup pc = some q) : e_dec 237 pc = some q := h
theorem L237 : (e_m 237).2.2.1 = 4 := rfl
theorem R237 : (e_m 237).2.2.2.1 = (some .int) := rfl
def w_Law_run (kc ks : Nat) (l0 : Nat) (l1 : Int32) (l2 : Nat) (M : eM) (Q : Int32 → eM → Prop) : Prop := e_ob M l0 11 ∧ w_Mill_run kc ks l0 l1 M (fun v M1 => e_ar M1 l2 21 0 ∧ ∀ M2 : eM, M2 = e_sl M1 l2 0 v.toInt64 → Q 0 M2) (fun a M1 => (a = 91 → ∀ g : Nat, Q 1 (e_gap M1 g)) ∧ (a = 92 → ∀ g : Nat, Q 2 (e_gap M1 g)) ∧ (a = 93 → ∀ g : Nat, Q 3 (e_gap M1 g)) ∧ (a = 91 ∨ a = 92 ∨ a = 93))
theorem b_Law_run {d kc ks : Nat} {l0 : Nat} {l1 : Int32} {l2 : Nat} {M : eM} {Q : Int32 → eM → Prop} (hd : 19 ≤ d) (h : w_Law_run kc ks l0 l1 l2 M Q) (am : eAm) (ht : e_tab am 237) : e_F am 237 d kc ks 0 (lv_args 0 [.ref l0, .int l1, .ref l2]) [] M (e_QI Q) := by
  obtain ⟨g, h⟩ := h
  show e_F am 237 d kc ks 0 [(0, .ref l0), (1, .int l1), (2, .ref l2)] [] M (e_QI Q)
  refine f_aload_n (kd237 rfl) rfl rfl ?_
  refine f_iconst (kd237 rfl) (y := 0) (by decide) rfl ?_
  refine f_aload_n (kd237 rfl) rfl rfl ?_
  refine f_iload_n (kd237 rfl) rfl rfl ?_
  refine f_callX (d' := d - 1) (by decide) rfl ht R237 (by omega) (by omega) (kd237 rfl) (by decide) rfl rfl (Nat.le_of_ble_eq_true rfl) (Nat.le_of_ble_eq_true rfl) (Nat.le_of_ble_eq_true rfl) g (Nat.le_refl _) (Nat.le_refl _) (b_Mill_run (by omega) h) ?_ ?_
  · rintro v M1 ⟨⟨x, rfl, g1, h⟩ | ⟨t, rfl, h⟩, hn⟩
    · have h := h _ rfl
      refine f_i2l (kd237 rfl) rfl ?_
      refine f_lastore (kd237 rfl) g1 rfl ?_
      refine f_goto (kd237 rfl) ?_
      refine f_iconst (kd237 rfl) (y := 0) (by decide) rfl ?_
      exact f_ireturn (kd237 rfl) R237 h
    · exact absurd rfl (hn t)
  · rintro a M1 - - (⟨x, z, -⟩ | ⟨t, z, h⟩)
    · cases z
    · cases z
      obtain ⟨h91, h92, h93, h⟩ := h
      rcases h with rfl | rfl | rfl
      · exact ⟨_, _, rfl, fun g => ⟨_, rfl, h91 rfl g⟩⟩
      · exact ⟨_, _, rfl, fun g => ⟨_, rfl, h92 rfl g⟩⟩
      · exact ⟨_, _, rfl, fun g => ⟨_, rfl, h93 rfl g⟩⟩
theorem kd238 {pc : Nat} {q : eI} (h : e_d238.lookup pc = some q) : e_dec 238 pc = some q := h
theorem L238 : (e_m 238).2.2.1 = 4 := rfl
theorem R238 : (e_m 238).2.2.2.1 = (some .int) := rfl
def w_Law_output (kc ks : Nat) (l0 : Nat) (l1 : Int32) (l2 : Nat) (M : eM) (Q : Int32 → eM → Prop) : Prop := e_ob M l0 11 ∧ w_Mill_output kc ks l0 l1 M (fun v M1 => e_ar M1 l2 21 0 ∧ ∀ M2 : eM, M2 = e_sl M1 l2 0 v.toInt64 → Q 0 M2) (fun a M1 => (a = 94 → ∀ g : Nat, Q 1 (e_gap M1 g)) ∧ (a = 94))
theorem b_Law_output {d kc ks : Nat} {l0 : Nat} {l1 : Int32} {l2 : Nat} {M : eM} {Q : Int32 → eM → Prop} (hd : 6 ≤ d) (h : w_Law_output kc ks l0 l1 l2 M Q) (am : eAm) (ht : e_tab am 238) : e_F am 238 d kc ks 0 (lv_args 0 [.ref l0, .int l1, .ref l2]) [] M (e_QI Q) := by
  obtain ⟨g, h⟩ := h
  show e_F am 238 d kc ks 0 [(0, .ref l0), (1, .int l1), (2, .ref l2)] [] M (e_QI Q)
  refine f_aload_n (kd238 rfl) rfl rfl ?_
  refine f_iconst (kd238 rfl) (y := 0) (by decide) rfl ?_
  refine f_aload_n (kd238 rfl) rfl rfl ?_
  refine f_iload_n (kd238 rfl) rfl rfl ?_
  refine f_callX (d' := d - 1) (by decide) rfl ht R238 (by omega) (by omega) (kd238 rfl) (by decide) rfl rfl (Nat.le_of_ble_eq_true rfl) (Nat.le_of_ble_eq_true rfl) (Nat.le_of_ble_eq_true rfl) g (Nat.le_refl _) (Nat.le_refl _) (b_Mill_output (by omega) h) ?_ ?_
  · rintro v M1 ⟨⟨x, rfl, g1, h⟩ | ⟨t, rfl, h⟩, hn⟩
    · have h := h _ rfl
      refine f_i2l (kd238 rfl) rfl ?_
      refine f_lastore (kd238 rfl) g1 rfl ?_
      refine f_goto (kd238 rfl) ?_
      refine f_iconst (kd238 rfl) (y := 0) (by decide) rfl ?_
      exact f_ireturn (kd238 rfl) R238 h
    · exact absurd rfl (hn t)
  · rintro a M1 - - (⟨x, z, -⟩ | ⟨t, z, h⟩)
    · cases z
    · cases z
      obtain ⟨h94, h⟩ := h
      subst h
      exact ⟨_, _, rfl, fun g => ⟨_, rfl, h94 rfl g⟩⟩
theorem kd239 {pc : Nat} {q : eI} (h : e_d239.lookup pc = some q) : e_dec 239 pc = some q := h
theorem L239 : (e_m 239).2.2.1 = 5 := rfl
theorem R239 : (e_m 239).2.2.2.1 = (some .int) := rfl
def w_Law_local (kc ks : Nat) (l0 : Nat) (l1 : Int32) (l2 : Int32) (l3 : Nat) (M : eM) (Q : Int32 → eM → Prop) : Prop := e_ob M l0 11 ∧ w_Mill_local kc ks l0 l1 l2 M (fun v M1 => e_ar M1 l3 21 0 ∧ ∀ M2 : eM, M2 = e_sl M1 l3 0 v.toInt64 → Q 0 M2) (fun a M1 => (a = 94 → ∀ g : Nat, Q 1 (e_gap M1 g)) ∧ (a = 94))
theorem b_Law_local {d kc ks : Nat} {l0 : Nat} {l1 : Int32} {l2 : Int32} {l3 : Nat} {M : eM} {Q : Int32 → eM → Prop} (hd : 10 ≤ d) (h : w_Law_local kc ks l0 l1 l2 l3 M Q) (am : eAm) (ht : e_tab am 239) : e_F am 239 d kc ks 0 (lv_args 0 [.ref l0, .int l1, .int l2, .ref l3]) [] M (e_QI Q) := by
  obtain ⟨g, h⟩ := h
  show e_F am 239 d kc ks 0 [(0, .ref l0), (1, .int l1), (2, .int l2), (3, .ref l3)] [] M (e_QI Q)
  refine f_aload_n (kd239 rfl) rfl rfl ?_
  refine f_iconst (kd239 rfl) (y := 0) (by decide) rfl ?_
  refine f_aload_n (kd239 rfl) rfl rfl ?_
  refine f_iload_n (kd239 rfl) rfl rfl ?_
  refine f_iload_n (kd239 rfl) rfl rfl ?_
  refine f_callX (d' := d - 1) (by decide) rfl ht R239 (by omega) (by omega) (kd239 rfl) (by decide) rfl rfl (Nat.le_of_ble_eq_true rfl) (Nat.le_of_ble_eq_true rfl) (Nat.le_of_ble_eq_true rfl) g (Nat.le_refl _) (Nat.le_refl _) (b_Mill_local (by omega) h) ?_ ?_
  · rintro v M1 ⟨⟨x, rfl, g1, h⟩ | ⟨t, rfl, h⟩, hn⟩
    · have h := h _ rfl
      refine f_i2l (kd239 rfl) rfl ?_
      refine f_lastore (kd239 rfl) g1 rfl ?_
      refine f_goto (kd239 rfl) ?_
      refine f_iconst (kd239 rfl) (y := 0) (by decide) rfl ?_
      exact f_ireturn (kd239 rfl) R239 h
    · exact absurd rfl (hn t)
  · rintro a M1 - - (⟨x, z, -⟩ | ⟨t, z, h⟩)
    · cases z
    · cases z
      obtain ⟨h94, h⟩ := h
      subst h
      exact ⟨_, _, rfl, fun g => ⟨_, rfl, h94 rfl g⟩⟩
theorem kd240 {pc : Nat} {q : eI} (h : e_d240.lookup pc = some q) : e_dec 240 pc = some q := h
theorem L240 : (e_m 240).2.2.1 = 6 := rfl
theorem R240 : (e_m 240).2.2.2.1 = (some .int) := rfl
def w_Law_part (kc ks : Nat) (l0 : Nat) (l1 : Int32) (l2 : Int32) (l3 : Int32) (l4 : Nat) (M : eM) (Q : Int32 → eM → Prop) : Prop := e_ob M l0 11 ∧ w_Mill_part kc ks l0 l1 l2 l3 M (fun v M1 => e_ar M1 l4 21 0 ∧ ∀ M2 : eM, M2 = e_sl M1 l4 0 v.toInt64 → Q 0 M2) (fun a M1 => (a = 94 → ∀ g : Nat, Q 1 (e_gap M1 g)) ∧ (a = 94))
theorem b_Law_part {d kc ks : Nat} {l0 : Nat} {l1 : Int32} {l2 : Int32} {l3 : Int32} {l4 : Nat} {M : eM} {Q : Int32 → eM → Prop} (hd : 10 ≤ d) (h : w_Law_part kc ks l0 l1 l2 l3 l4 M Q) (am : eAm) (ht : e_tab am 240) : e_F am 240 d kc ks 0 (lv_args 0 [.ref l0, .int l1, .int l2, .int l3, .ref l4]) [] M (e_QI Q) := by
  obtain ⟨g, h⟩ := h
  show e_F am 240 d kc ks 0 [(0, .ref l0), (1, .int l1), (2, .int l2), (3, .int l3), (4, .ref l4)] [] M (e_QI Q)
  refine f_aload (kd240 rfl) rfl rfl ?_
  refine f_iconst (kd240 rfl) (y := 0) (by decide) rfl ?_
  refine f_aload_n (kd240 rfl) rfl rfl ?_
  refine f_iload_n (kd240 rfl) rfl rfl ?_
  refine f_iload_n (kd240 rfl) rfl rfl ?_
  refine f_iload_n (kd240 rfl) rfl rfl ?_
  refine f_callX (d' := d - 1) (by decide) rfl ht R240 (by omega) (by omega) (kd240 rfl) (by decide) rfl rfl (Nat.le_of_ble_eq_true rfl) (Nat.le_of_ble_eq_true rfl) (Nat.le_of_ble_eq_true rfl) g (Nat.le_refl _) (Nat.le_refl _) (b_Mill_part (by omega) h) ?_ ?_
  · rintro v M1 ⟨⟨x, rfl, g1, h⟩ | ⟨t, rfl, h⟩, hn⟩
    · have h := h _ rfl
      refine f_i2l (kd240 rfl) rfl ?_
      refine f_lastore (kd240 rfl) g1 rfl ?_
      refine f_goto (kd240 rfl) ?_
      refine f_iconst (kd240 rfl) (y := 0) (by decide) rfl ?_
      exact f_ireturn (kd240 rfl) R240 h
    · exact absurd rfl (hn t)
  · rintro a M1 - - (⟨x, z, -⟩ | ⟨t, z, h⟩)
    · cases z
    · cases z
      obtain ⟨h94, h⟩ := h
      subst h
      exact ⟨_, _, rfl, fun g => ⟨_, rfl, h94 rfl g⟩⟩
