/-- TierMill$Verifier.areParamsFit(LTierMill$Shape;)Z -/
theorem kd115 {pc : Nat} {q : eI} (h : e_d115.lookup pc = some q) : e_dec 115 pc = some q := h
theorem L115 : (e_m 115).2.2.1 = 3 := rfl
theorem R115 : (e_m 115).2.2.2.1 = (some .boolean) := rfl
def w_Verifier_areParamsFit_2 : Nat → Nat → Nat → Int32 → eM → (Int32 → eM → Prop) → Prop
  | 0, _, _, _, _, _ => False
  | n + 1, l0, l1, l2, M, Q => e_ob M l1 8 ∧ ((gi M l1 1) ≤ l2 → ((1 : Int32) = 0 ∨ (1 : Int32) = 1) ∧ Q (1 : Int32) M) ∧ (¬ (gi M l1 1) ≤ l2 → e_ob M l1 8 ∧ e_ob M l0 10 ∧ w_Verifier_fromTop l0 (((gi M l1 1) - 1) - l2) M (fun (v3 : Int32) (M2 : eM) => e_ob M2 l1 8 ∧ e_ai M2 (gr M2 l1 0) l2 ∧ e_ob M2 l0 10 ∧ w_Verifier_isFit l0 v3 (gi M2 (gr M2 l1 0) l2.toNatClampNeg) M2 (fun (v5 : Int32) (M4 : eM) => (¬ v5 = 0 → (fun l0 l1 l2 M => w_Verifier_areParamsFit_2 n l0 l1 l2 M Q ) l0 l1 (l2 + 1) M4) ∧ (v5 = 0 → ((0 : Int32) = 0 ∨ (0 : Int32) = 1) ∧ Q (0 : Int32) M4))))
theorem b_Verifier_areParamsFit_2 {d : Nat} {Q : Int32 → eM → Prop} (hd : 2 ≤ d) (n : Nat) : ∀ (l0 : Nat) (l1 : Nat) (l2 : Int32) (M : eM), w_Verifier_areParamsFit_2 n l0 l1 l2 M Q → e_E 115 d 0 0 2 [(0, .ref l0), (1, .ref l1), (2, .int l2)] [] M (e_QI Q) := by
  induction n with
  | zero => intro l0 l1 l2 M h; exact False.elim h
  | succ n ih =>
    intro l0 l1 l2 M h
    have hk2 := ih
    refine r_iload_n (kd115 rfl) rfl rfl ?_
    refine r_aload_n (kd115 rfl) rfl rfl ?_
    obtain ⟨g, h⟩ := h
    refine r_get0 (kd115 rfl) (by decide) rfl g rfl ?_
    refine r_icmp_ge (kd115 rfl) rfl (fun c => ?_) (fun c => ?_)
    · have h := h.1 c
      refine r_iconst (kd115 rfl) (y := 1) (by decide) rfl ?_
      exact r_zreturn (kd115 rfl) R115 h.1 h.2
    · have h := h.2 c
      refine r_aload_n (kd115 rfl) rfl rfl ?_
      refine r_aload_n (kd115 rfl) rfl rfl ?_
      refine r_aload_n (kd115 rfl) rfl rfl ?_
      obtain ⟨g, h⟩ := h
      refine r_get0 (kd115 rfl) (by decide) rfl g rfl ?_
      refine r_iconst (kd115 rfl) (y := 1) (by decide) rfl ?_
      refine r_isub (kd115 rfl) rfl ?_
      refine r_iload_n (kd115 rfl) rfl rfl ?_
      refine r_isub (kd115 rfl) rfl ?_
      obtain ⟨g, h⟩ := h
      refine r_callVI (d' := d - 1) (by omega) (kd115 rfl) (by decide) rfl rfl rfl rfl (Nat.le_of_ble_eq_true rfl) rfl L111 (Nat.le_of_ble_eq_true rfl) (Nat.le_of_ble_eq_true rfl) g (Nat.zero_le _) (Nat.zero_le _) rfl rfl rfl (b_Verifier_fromTop (by omega) h) (fun x1 M1 h => ?_)
      refine r_aload_n (kd115 rfl) rfl rfl ?_
      obtain ⟨g, h⟩ := h
      refine r_get2 (kd115 rfl) (by decide) rfl g rfl ?_
      refine r_iload_n (kd115 rfl) rfl rfl ?_
      obtain ⟨g, h⟩ := h
      refine r_iaload (kd115 rfl) g rfl ?_
      obtain ⟨g, h⟩ := h
      refine r_callVI (d' := d - 1) (by omega) (kd115 rfl) (by decide) rfl rfl rfl rfl (Nat.le_of_ble_eq_true rfl) rfl L117 (Nat.le_of_ble_eq_true rfl) (Nat.le_of_ble_eq_true rfl) g (Nat.zero_le _) (Nat.zero_le _) rfl rfl rfl (b_Verifier_isFit (by omega) h) (fun x1 M1 h => ?_)
      refine r_if_ne (kd115 rfl) rfl (fun c => ?_) (fun c => ?_)
      · have h := h.1 c
        refine r_iinc (kd115 rfl) rfl (y := 1) (by decide) L115 (by decide) rfl rfl ?_
        refine r_goto (kd115 rfl) ?_
        exact (hk2 _ _ _ _ h).less (e_sc (List.mem_of_getElem? (i := 1) rfl) (e_sc (List.mem_of_getElem? (i := 2) rfl) (e_sc (List.mem_of_getElem? (i := 0) rfl) e_sn)))
      · have h := h.2 c
        refine r_iconst (kd115 rfl) (y := 0) (by decide) rfl ?_
        exact r_zreturn (kd115 rfl) R115 h.1 h.2
def w_Verifier_areParamsFit (l0 : Nat) (l1 : Nat) (M : eM) (Q : Int32 → eM → Prop) : Prop := ∃ n1 : Nat, w_Verifier_areParamsFit_2 n1 l0 l1 0 M Q
theorem b_Verifier_areParamsFit {d : Nat} {l0 : Nat} {l1 : Nat} {M : eM} {Q : Int32 → eM → Prop} (hd : 2 ≤ d) (h : w_Verifier_areParamsFit l0 l1 M Q) : e_CI 115 d 0 0 [.ref l0, .ref l1] M Q := by
  unfold w_Verifier_areParamsFit at h
  show e_E 115 d 0 0 0 [(0, .ref l0), (1, .ref l1)] [] M (e_QI Q)
  refine r_iconst (kd115 rfl) (y := 0) (by decide) rfl ?_
  refine r_istore_n (kd115 rfl) L115 (by decide) rfl rfl ?_
  obtain ⟨n, h⟩ := h
  exact (b_Verifier_areParamsFit_2 hd n _ _ _ _ h).less (e_sc (List.mem_of_getElem? (i := 1) rfl) (e_sc (List.mem_of_getElem? (i := 2) rfl) (e_sc (List.mem_of_getElem? (i := 0) rfl) e_sn)))
/-- TierMill$Verifier.hasMethod(I)Z -/
theorem kd116 {pc : Nat} {q : eI} (h : e_d116.lookup pc = some q) : e_dec 116 pc = some q := h
theorem L116 : (e_m 116).2.2.1 = 3 := rfl
theorem R116 : (e_m 116).2.2.2.1 = (some .boolean) := rfl
def w_Verifier_hasMethod_49 (s0 : Int32) (M : eM) (Q : Int32 → eM → Prop) : Prop := (s0 = 0 ∨ s0 = 1) ∧ Q s0 M
theorem b_Verifier_hasMethod_49 {d : Nat} {s0 : Int32} {M : eM} {Q : Int32 → eM → Prop} (hd : 2 ≤ d) (h : w_Verifier_hasMethod_49 s0 M Q ) : e_E 116 d 0 0 49 [] [.int s0] M (e_QI Q) := by
  unfold w_Verifier_hasMethod_49 at h
  exact r_zreturn (kd116 rfl) R116 h.1 h.2
def w_Verifier_hasMethod_48 (M : eM) (Q : Int32 → eM → Prop) : Prop := w_Verifier_hasMethod_49 0 M Q
theorem b_Verifier_hasMethod_48 {d : Nat} {M : eM} {Q : Int32 → eM → Prop} (hd : 2 ≤ d) (h : w_Verifier_hasMethod_48 M Q ) : e_E 116 d 0 0 48 [] [] M (e_QI Q) := by
  unfold w_Verifier_hasMethod_48 at h
  refine r_iconst (kd116 rfl) (y := 0) (by decide) rfl ?_
  exact (b_Verifier_hasMethod_49 hd h).less e_sn
def w_Verifier_hasMethod (l0 : Nat) (l1 : Int32) (M : eM) (Q : Int32 → eM → Prop) : Prop := e_ob M l0 10 ∧ e_ob M (gr M l0 3) 6 ∧ (e_ar M (gr M (gr M l0 3) 8) 23 l1 ∨ e_ar M (gr M (gr M l0 3) 8) 24 l1) ∧ e_ob M (gr M (gr M (gr M l0 3) 8) l1.toNatClampNeg) 8 ∧ e_ob M l0 10 ∧ w_Verifier_fromTop l0 (gi M (gr M (gr M (gr M l0 3) 8) l1.toNatClampNeg) 1) M (fun (v2 : Int32) (M1 : eM) => (v2 < 16 → w_Verifier_hasMethod_48 M1 Q) ∧ (¬ v2 < 16 → e_ob M1 l0 10 ∧ e_ob M1 (gr M1 l0 3) 6 ∧ e_ai M1 (gr M1 (gr M1 l0 3) 11) (((v2 - 16) * 8) + l1) ∧ ((gi M1 (gr M1 (gr M1 l0 3) 11) (((v2 - 16) * 8) + l1).toNatClampNeg) = (-1) → w_Verifier_hasMethod_48 M1 Q) ∧ (¬ (gi M1 (gr M1 (gr M1 l0 3) 11) (((v2 - 16) * 8) + l1).toNatClampNeg) = (-1) → w_Verifier_hasMethod_49 1 M1 Q)))
theorem b_Verifier_hasMethod {d : Nat} {l0 : Nat} {l1 : Int32} {M : eM} {Q : Int32 → eM → Prop} (hd : 2 ≤ d) (h : w_Verifier_hasMethod l0 l1 M Q) : e_CI 116 d 0 0 [.ref l0, .int l1] M Q := by
  unfold w_Verifier_hasMethod at h
  show e_E 116 d 0 0 0 [(0, .ref l0), (1, .int l1)] [] M (e_QI Q)
  refine r_aload_n (kd116 rfl) rfl rfl ?_
  refine r_aload_n (kd116 rfl) rfl rfl ?_
  obtain ⟨g, h⟩ := h
  refine r_get2 (kd116 rfl) (by decide) rfl g rfl ?_
  obtain ⟨g, h⟩ := h
  refine r_get2 (kd116 rfl) (by decide) rfl g rfl ?_
  refine r_iload_n (kd116 rfl) rfl rfl ?_
  obtain ⟨g, h⟩ := h
  refine r_aaload (kd116 rfl) g rfl ?_
  obtain ⟨g, h⟩ := h
  refine r_get0 (kd116 rfl) (by decide) rfl g rfl ?_
  obtain ⟨g, h⟩ := h
  refine r_callVI (d' := d - 1) (by omega) (kd116 rfl) (by decide) rfl rfl rfl rfl (Nat.le_of_ble_eq_true rfl) rfl L111 (Nat.le_of_ble_eq_true rfl) (Nat.le_of_ble_eq_true rfl) g (Nat.zero_le _) (Nat.zero_le _) rfl rfl rfl (b_Verifier_fromTop (by omega) h) (fun x1 M1 h => ?_)
  refine r_istore_n (kd116 rfl) L116 (by decide) rfl rfl ?_
  refine r_iload_n (kd116 rfl) rfl rfl ?_
  refine r_bipush (kd116 rfl) (y := 16) (by decide) rfl ?_
  refine r_icmp_lt (kd116 rfl) rfl (fun c => ?_) (fun c => ?_)
  · have h := h.1 c
    exact (b_Verifier_hasMethod_48 hd h).less e_sn
  · have h := h.2 c
    refine r_aload_n (kd116 rfl) rfl rfl ?_
    obtain ⟨g, h⟩ := h
    refine r_get2 (kd116 rfl) (by decide) rfl g rfl ?_
    obtain ⟨g, h⟩ := h
    refine r_get2 (kd116 rfl) (by decide) rfl g rfl ?_
    refine r_iload_n (kd116 rfl) rfl rfl ?_
    refine r_bipush (kd116 rfl) (y := 16) (by decide) rfl ?_
    refine r_isub (kd116 rfl) rfl ?_
    refine r_bipush (kd116 rfl) (y := 8) (by decide) rfl ?_
    refine r_imul (kd116 rfl) rfl ?_
    refine r_iload_n (kd116 rfl) rfl rfl ?_
    refine r_iadd (kd116 rfl) rfl ?_
    obtain ⟨g, h⟩ := h
    refine r_iaload (kd116 rfl) g rfl ?_
    refine r_iconst (kd116 rfl) (y := (-1)) (by decide) rfl ?_
    refine r_icmp_eq (kd116 rfl) rfl (fun c => ?_) (fun c => ?_)
    · have h := h.1 c
      exact (b_Verifier_hasMethod_48 hd h).less e_sn
    · have h := h.2 c
      refine r_iconst (kd116 rfl) (y := 1) (by decide) rfl ?_
      refine r_goto (kd116 rfl) ?_
      exact (b_Verifier_hasMethod_49 hd h).less e_sn
/-- TierMill$Verifier.isFitObject(II)Z -/
theorem kd114 {pc : Nat} {q : eI} (h : e_d114.lookup pc = some q) : e_dec 114 pc = some q := h
theorem L114 : (e_m 114).2.2.1 = 6 := rfl
theorem R114 : (e_m 114).2.2.2.1 = (some .boolean) := rfl
set_option maxRecDepth 100000 in
def w_Verifier_isFitObject_167 (s0 : Int32) (M : eM) (Q : Int32 → eM → Prop) : Prop := (s0 = 0 ∨ s0 = 1) ∧ Q s0 M
set_option maxRecDepth 100000 in
theorem b_Verifier_isFitObject_167 {d : Nat} {s0 : Int32} {M : eM} {Q : Int32 → eM → Prop} (hd : 3 ≤ d) (h : w_Verifier_isFitObject_167 s0 M Q ) : e_E 114 d 0 0 167 [] [.int s0] M (e_QI Q) := by
  unfold w_Verifier_isFitObject_167 at h
  exact r_zreturn (kd114 rfl) R114 h.1 h.2
set_option maxRecDepth 100000 in
def w_Verifier_isFitObject_166 (M : eM) (Q : Int32 → eM → Prop) : Prop := w_Verifier_isFitObject_167 0 M Q
set_option maxRecDepth 100000 in
theorem b_Verifier_isFitObject_166 {d : Nat} {M : eM} {Q : Int32 → eM → Prop} (hd : 3 ≤ d) (h : w_Verifier_isFitObject_166 M Q ) : e_E 114 d 0 0 166 [] [] M (e_QI Q) := by
  unfold w_Verifier_isFitObject_166 at h
  refine r_iconst (kd114 rfl) (y := 0) (by decide) rfl ?_
  exact (b_Verifier_isFitObject_167 hd h).less e_sn
set_option maxRecDepth 100000 in
def w_Verifier_isFitObject_178 (s0 : Int32) (M : eM) (Q : Int32 → eM → Prop) : Prop := (s0 = 0 ∨ s0 = 1) ∧ Q s0 M
set_option maxRecDepth 100000 in
theorem b_Verifier_isFitObject_178 {d : Nat} {s0 : Int32} {M : eM} {Q : Int32 → eM → Prop} (hd : 3 ≤ d) (h : w_Verifier_isFitObject_178 s0 M Q ) : e_E 114 d 0 0 178 [] [.int s0] M (e_QI Q) := by
  unfold w_Verifier_isFitObject_178 at h
  exact r_zreturn (kd114 rfl) R114 h.1 h.2
set_option maxRecDepth 100000 in
def w_Verifier_isFitObject_199 (s0 : Int32) (M : eM) (Q : Int32 → eM → Prop) : Prop := (s0 = 0 ∨ s0 = 1) ∧ Q s0 M
set_option maxRecDepth 100000 in
theorem b_Verifier_isFitObject_199 {d : Nat} {s0 : Int32} {M : eM} {Q : Int32 → eM → Prop} (hd : 3 ≤ d) (h : w_Verifier_isFitObject_199 s0 M Q ) : e_E 114 d 0 0 199 [] [.int s0] M (e_QI Q) := by
  unfold w_Verifier_isFitObject_199 at h
  exact r_zreturn (kd114 rfl) R114 h.1 h.2
set_option maxRecDepth 100000 in
def w_Verifier_isFitObject_198 (M : eM) (Q : Int32 → eM → Prop) : Prop := w_Verifier_isFitObject_199 0 M Q
set_option maxRecDepth 100000 in
theorem b_Verifier_isFitObject_198 {d : Nat} {M : eM} {Q : Int32 → eM → Prop} (hd : 3 ≤ d) (h : w_Verifier_isFitObject_198 M Q ) : e_E 114 d 0 0 198 [] [] M (e_QI Q) := by
  unfold w_Verifier_isFitObject_198 at h
  refine r_iconst (kd114 rfl) (y := 0) (by decide) rfl ?_
  exact (b_Verifier_isFitObject_199 hd h).less e_sn
set_option maxRecDepth 100000 in
def w_Verifier_isFitObject_229 (s0 : Int32) (M : eM) (Q : Int32 → eM → Prop) : Prop := (s0 = 0 ∨ s0 = 1) ∧ Q s0 M
set_option maxRecDepth 100000 in
theorem b_Verifier_isFitObject_229 {d : Nat} {s0 : Int32} {M : eM} {Q : Int32 → eM → Prop} (hd : 3 ≤ d) (h : w_Verifier_isFitObject_229 s0 M Q ) : e_E 114 d 0 0 229 [] [.int s0] M (e_QI Q) := by
  unfold w_Verifier_isFitObject_229 at h
  exact r_zreturn (kd114 rfl) R114 h.1 h.2
set_option maxRecDepth 100000 in
def w_Verifier_isFitObject_228 (M : eM) (Q : Int32 → eM → Prop) : Prop := w_Verifier_isFitObject_229 0 M Q
set_option maxRecDepth 100000 in
theorem b_Verifier_isFitObject_228 {d : Nat} {M : eM} {Q : Int32 → eM → Prop} (hd : 3 ≤ d) (h : w_Verifier_isFitObject_228 M Q ) : e_E 114 d 0 0 228 [] [] M (e_QI Q) := by
  unfold w_Verifier_isFitObject_228 at h
  refine r_iconst (kd114 rfl) (y := 0) (by decide) rfl ?_
  exact (b_Verifier_isFitObject_229 hd h).less e_sn
set_option maxRecDepth 100000 in
def w_Verifier_isFitObject_253 (s0 : Int32) (M : eM) (Q : Int32 → eM → Prop) : Prop := (s0 = 0 ∨ s0 = 1) ∧ Q s0 M
set_option maxRecDepth 100000 in
theorem b_Verifier_isFitObject_253 {d : Nat} {s0 : Int32} {M : eM} {Q : Int32 → eM → Prop} (hd : 3 ≤ d) (h : w_Verifier_isFitObject_253 s0 M Q ) : e_E 114 d 0 0 253 [] [.int s0] M (e_QI Q) := by
  unfold w_Verifier_isFitObject_253 at h
  exact r_zreturn (kd114 rfl) R114 h.1 h.2
set_option maxRecDepth 100000 in
def w_Verifier_isFitObject_248 (M : eM) (Q : Int32 → eM → Prop) : Prop := w_Verifier_isFitObject_253 1 M Q
set_option maxRecDepth 100000 in
theorem b_Verifier_isFitObject_248 {d : Nat} {M : eM} {Q : Int32 → eM → Prop} (hd : 3 ≤ d) (h : w_Verifier_isFitObject_248 M Q ) : e_E 114 d 0 0 248 [] [] M (e_QI Q) := by
  unfold w_Verifier_isFitObject_248 at h
  refine r_iconst (kd114 rfl) (y := 1) (by decide) rfl ?_
  refine r_goto (kd114 rfl) ?_
  exact (b_Verifier_isFitObject_253 hd h).less e_sn
set_option maxRecDepth 100000 in
def w_Verifier_isFitObject_237 (l3 : Int32) (M : eM) (Q : Int32 → eM → Prop) : Prop := (l3 = 3 → w_Verifier_isFitObject_248 M Q) ∧ (¬ l3 = 3 → (l3 < 15 → w_Verifier_isFitObject_253 0 M Q) ∧ (¬ l3 < 15 → w_Verifier_isFitObject_248 M Q))
set_option maxRecDepth 100000 in
theorem b_Verifier_isFitObject_237 {d : Nat} {l3 : Int32} {M : eM} {Q : Int32 → eM → Prop} (hd : 3 ≤ d) (h : w_Verifier_isFitObject_237 l3 M Q ) : e_E 114 d 0 0 237 [(3, .int l3)] [] M (e_QI Q) := by
  unfold w_Verifier_isFitObject_237 at h
  refine r_iload_n (kd114 rfl) rfl rfl ?_
  refine r_iconst (kd114 rfl) (y := 3) (by decide) rfl ?_
  refine r_icmp_eq (kd114 rfl) rfl (fun c => ?_) (fun c => ?_)
  · have h := h.1 c
    exact (b_Verifier_isFitObject_248 hd h).less e_sn
  · have h := h.2 c
    refine r_iload_n (kd114 rfl) rfl rfl ?_
    refine r_bipush (kd114 rfl) (y := 15) (by decide) rfl ?_
    refine r_icmp_lt (kd114 rfl) rfl (fun c => ?_) (fun c => ?_)
    · have h := h.1 c
      refine r_iconst (kd114 rfl) (y := 0) (by decide) rfl ?_
      exact (b_Verifier_isFitObject_253 hd h).less e_sn
    · have h := h.2 c
      exact (b_Verifier_isFitObject_248 hd h).less e_sn
set_option maxRecDepth 100000 in
def w_Verifier_isFitObject_300 (s0 : Int32) (M : eM) (Q : Int32 → eM → Prop) : Prop := (s0 = 0 ∨ s0 = 1) ∧ Q s0 M
set_option maxRecDepth 100000 in
theorem b_Verifier_isFitObject_300 {d : Nat} {s0 : Int32} {M : eM} {Q : Int32 → eM → Prop} (hd : 3 ≤ d) (h : w_Verifier_isFitObject_300 s0 M Q ) : e_E 114 d 0 0 300 [] [.int s0] M (e_QI Q) := by
  unfold w_Verifier_isFitObject_300 at h
  exact r_zreturn (kd114 rfl) R114 h.1 h.2
set_option maxRecDepth 100000 in
def w_Verifier_isFitObject_299 (M : eM) (Q : Int32 → eM → Prop) : Prop := w_Verifier_isFitObject_300 0 M Q
set_option maxRecDepth 100000 in
theorem b_Verifier_isFitObject_299 {d : Nat} {M : eM} {Q : Int32 → eM → Prop} (hd : 3 ≤ d) (h : w_Verifier_isFitObject_299 M Q ) : e_E 114 d 0 0 299 [] [] M (e_QI Q) := by
  unfold w_Verifier_isFitObject_299 at h
  refine r_iconst (kd114 rfl) (y := 0) (by decide) rfl ?_
  exact (b_Verifier_isFitObject_300 hd h).less e_sn
set_option maxRecDepth 100000 in
def w_Verifier_isFitObject_316 (s0 : Int32) (M : eM) (Q : Int32 → eM → Prop) : Prop := (s0 = 0 ∨ s0 = 1) ∧ Q s0 M
set_option maxRecDepth 100000 in
theorem b_Verifier_isFitObject_316 {d : Nat} {s0 : Int32} {M : eM} {Q : Int32 → eM → Prop} (hd : 3 ≤ d) (h : w_Verifier_isFitObject_316 s0 M Q ) : e_E 114 d 0 0 316 [] [.int s0] M (e_QI Q) := by
  unfold w_Verifier_isFitObject_316 at h
  exact r_zreturn (kd114 rfl) R114 h.1 h.2
set_option maxRecDepth 100000 in
def w_Verifier_isFitObject_347 (s0 : Int32) (M : eM) (Q : Int32 → eM → Prop) : Prop := (s0 = 0 ∨ s0 = 1) ∧ Q s0 M
set_option maxRecDepth 100000 in
theorem b_Verifier_isFitObject_347 {d : Nat} {s0 : Int32} {M : eM} {Q : Int32 → eM → Prop} (hd : 3 ≤ d) (h : w_Verifier_isFitObject_347 s0 M Q ) : e_E 114 d 0 0 347 [] [.int s0] M (e_QI Q) := by
  unfold w_Verifier_isFitObject_347 at h
  exact r_zreturn (kd114 rfl) R114 h.1 h.2
set_option maxRecDepth 100000 in
def w_Verifier_isFitObject_346 (M : eM) (Q : Int32 → eM → Prop) : Prop := w_Verifier_isFitObject_347 0 M Q
set_option maxRecDepth 100000 in
theorem b_Verifier_isFitObject_346 {d : Nat} {M : eM} {Q : Int32 → eM → Prop} (hd : 3 ≤ d) (h : w_Verifier_isFitObject_346 M Q ) : e_E 114 d 0 0 346 [] [] M (e_QI Q) := by
  unfold w_Verifier_isFitObject_346 at h
  refine r_iconst (kd114 rfl) (y := 0) (by decide) rfl ?_
  exact (b_Verifier_isFitObject_347 hd h).less e_sn
set_option maxRecDepth 100000 in
def w_Verifier_isFitObject_37 (l0 : Nat) (l1 : Int32) (l2 : Int32) (l3 : Int32) (l4 : Int32) (s0 : Int32) (M : eM) (Q : Int32 → eM → Prop) : Prop := (l2 = 39 → e_ob M l0 10 ∧ w_Verifier_isFit l0 l3 (16 + s0) M (fun (v6 : Int32) (M5 : eM) => (v6 = 0 ∨ v6 = 1) ∧ Q v6 M5)) ∧ (¬ l2 = 39 → (l2 = 40 → e_ob M l0 10 ∧ w_Verifier_isFit l0 l4 (16 + s0) M (fun (v8 : Int32) (M7 : eM) => (v8 = 0 → w_Verifier_isFitObject_166 M7 Q) ∧ (¬ v8 = 0 → e_ob M7 l0 10 ∧ e_ob M7 (gr M7 l0 3) 6 ∧ e_ob M7 l0 10 ∧ e_ob M7 (gr M7 l0 3) 6 ∧ e_ai M7 (gr M7 (gr M7 l0 3) 0) (l1 + 2) ∧ e_ai M7 (gr M7 (gr M7 l0 3) 6) ((s0 * 8) + (gi M7 (gr M7 (gr M7 l0 3) 0) (l1 + 2).toNatClampNeg)) ∧ e_ob M7 l0 10 ∧ w_Verifier_isFit l0 l3 (gi M7 (gr M7 (gr M7 l0 3) 6) ((s0 * 8) + (gi M7 (gr M7 (gr M7 l0 3) 0) (l1 + 2).toNatClampNeg)).toNatClampNeg) M7 (fun (v10 : Int32) (M9 : eM) => (v10 = 0 → w_Verifier_isFitObject_166 M9 Q) ∧ (¬ v10 = 0 → w_Verifier_isFitObject_167 1 M9 Q))))) ∧ (¬ l2 = 40 → (l2 = 41 → (¬ l3 = 1 → w_Verifier_isFitObject_178 0 M Q) ∧ (l3 = 1 → w_Verifier_isFitObject_178 1 M Q)) ∧ (¬ l2 = 41 → (l2 = 42 → e_ob M l0 10 ∧ w_Verifier_isFit l0 l4 2 M (fun (v12 : Int32) (M11 : eM) => (v12 = 0 → w_Verifier_isFitObject_198 M11 Q) ∧ (¬ v12 = 0 → (¬ l3 = 1 → w_Verifier_isFitObject_198 M11 Q) ∧ (l3 = 1 → w_Verifier_isFitObject_199 1 M11 Q)))) ∧ (¬ l2 = 42 → (l2 = 43 → e_ob M l0 10 ∧ w_Verifier_fromTop l0 2 M (fun (v14 : Int32) (M13 : eM) => e_ob M13 l0 10 ∧ w_Verifier_isFit l0 v14 2 M13 (fun (v16 : Int32) (M15 : eM) => (v16 = 0 → w_Verifier_isFitObject_228 M15 Q) ∧ (¬ v16 = 0 → (¬ l4 = 1 → w_Verifier_isFitObject_228 M15 Q) ∧ (l4 = 1 → (¬ l3 = 1 → w_Verifier_isFitObject_228 M15 Q) ∧ (l3 = 1 → w_Verifier_isFitObject_229 1 M15 Q)))))) ∧ (¬ l2 = 43 → (l2 = 44 → e_ob M l0 10 ∧ w_Verifier_isFit l0 l3 2 M (fun (v18 : Int32) (M17 : eM) => (v18 = 0 ∨ v18 = 1) ∧ Q v18 M17)) ∧ (¬ l2 = 44 → (l2 = 45 → w_Verifier_isFitObject_237 l3 M Q) ∧ (¬ l2 = 45 → (l2 = 46 → w_Verifier_isFitObject_237 l3 M Q) ∧ (¬ l2 = 46 → (l2 = 47 → e_ob M l0 10 ∧ e_ob M (gr M l0 3) 6 ∧ (e_ar M (gr M (gr M l0 3) 10) 23 s0 ∨ e_ar M (gr M (gr M l0 3) 10) 24 s0) ∧ e_ob M l0 10 ∧ w_Verifier_areParamsFit l0 (gr M (gr M (gr M l0 3) 10) s0.toNatClampNeg) M (fun (v20 : Int32) (M19 : eM) => (v20 = 0 ∨ v20 = 1) ∧ Q v20 M19)) ∧ (¬ l2 = 47 → (l2 = 48 → e_ob M l0 10 ∧ e_ob M (gr M l0 3) 6 ∧ (e_ar M (gr M (gr M l0 3) 8) 23 s0 ∨ e_ar M (gr M (gr M l0 3) 8) 24 s0) ∧ e_ob M l0 10 ∧ w_Verifier_areParamsFit l0 (gr M (gr M (gr M l0 3) 8) s0.toNatClampNeg) M (fun (v22 : Int32) (M21 : eM) => (v22 = 0 → w_Verifier_isFitObject_299 M21 Q) ∧ (¬ v22 = 0 → e_ob M21 l0 10 ∧ w_Verifier_hasMethod l0 s0 M21 (fun (v24 : Int32) (M23 : eM) => (v24 = 0 → w_Verifier_isFitObject_299 M23 Q) ∧ (¬ v24 = 0 → w_Verifier_isFitObject_300 1 M23 Q))))) ∧ (¬ l2 = 48 → (l2 = 49 → e_ob M l0 10 ∧ e_ob M (gr M l0 4) 8 ∧ (¬ (gi M (gr M l0 4) 2) = 0 → w_Verifier_isFitObject_316 0 M Q) ∧ ((gi M (gr M l0 4) 2) = 0 → w_Verifier_isFitObject_316 1 M Q)) ∧ (¬ l2 = 49 → (l2 = 50 → e_ob M l0 10 ∧ e_ob M (gr M l0 4) 8 ∧ ((gi M (gr M l0 4) 2) = 0 → w_Verifier_isFitObject_346 M Q) ∧ (¬ (gi M (gr M l0 4) 2) = 0 → e_ob M l0 10 ∧ e_ob M (gr M l0 4) 8 ∧ e_ob M l0 10 ∧ w_Verifier_isFit l0 l3 (gi M (gr M l0 4) 2) M (fun (v26 : Int32) (M25 : eM) => (v26 = 0 → w_Verifier_isFitObject_346 M25 Q) ∧ (¬ v26 = 0 → w_Verifier_isFitObject_347 1 M25 Q)))) ∧ (¬ l2 = 50 → ((1 : Int32) = 0 ∨ (1 : Int32) = 1) ∧ Q (1 : Int32) M))))))))))))
set_option maxRecDepth 100000 in
theorem b_Verifier_isFitObject_37 {d : Nat} {l0 : Nat} {l1 : Int32} {l2 : Int32} {l3 : Int32} {l4 : Int32} {s0 : Int32} {M : eM} {Q : Int32 → eM → Prop} (hd : 3 ≤ d) (h : w_Verifier_isFitObject_37 l0 l1 l2 l3 l4 s0 M Q ) : e_E 114 d 0 0 37 [(0, .ref l0), (1, .int l1), (2, .int l2), (3, .int l3), (4, .int l4)] [.int s0] M (e_QI Q) := by
  unfold w_Verifier_isFitObject_37 at h
  refine r_istore (kd114 rfl) L114 (by decide) rfl rfl ?_
  refine r_iload_n (kd114 rfl) rfl rfl ?_
  refine r_tableswitch (kd114 rfl) (u := 348) (qs := [(39, 104), (40, 115), (41, 168), (42, 179), (43, 200), (44, 230), (45, 237), (46, 237), (47, 254), (48, 269), (49, 301), (50, 317)]) rfl rfl rfl (by decide) ?_
  refine ⟨fun c => ?_, fun c => ?_⟩
  · have h := h.1 c
    refine r_aload_n (kd114 rfl) rfl rfl ?_
    refine r_iload_n (kd114 rfl) rfl rfl ?_
    refine r_bipush (kd114 rfl) (y := 16) (by decide) rfl ?_
    refine r_iload (kd114 rfl) rfl rfl ?_
    refine r_iadd (kd114 rfl) rfl ?_
    obtain ⟨g, h⟩ := h
    refine r_callVI (d' := d - 1) (by omega) (kd114 rfl) (by decide) rfl rfl rfl rfl (Nat.le_of_ble_eq_true rfl) rfl L117 (Nat.le_of_ble_eq_true rfl) (Nat.le_of_ble_eq_true rfl) g (Nat.zero_le _) (Nat.zero_le _) rfl rfl rfl (b_Verifier_isFit (by omega) h) (fun x1 M1 h => ?_)
    exact r_zreturn (kd114 rfl) R114 h.1 h.2
  have h := h.2 c
  refine ⟨fun c => ?_, fun c => ?_⟩
  · have h := h.1 c
    refine r_aload_n (kd114 rfl) rfl rfl ?_
    refine r_iload (kd114 rfl) rfl rfl ?_
    refine r_bipush (kd114 rfl) (y := 16) (by decide) rfl ?_
    refine r_iload (kd114 rfl) rfl rfl ?_
    refine r_iadd (kd114 rfl) rfl ?_
    obtain ⟨g, h⟩ := h
    refine r_callVI (d' := d - 1) (by omega) (kd114 rfl) (by decide) rfl rfl rfl rfl (Nat.le_of_ble_eq_true rfl) rfl L117 (Nat.le_of_ble_eq_true rfl) (Nat.le_of_ble_eq_true rfl) g (Nat.zero_le _) (Nat.zero_le _) rfl rfl rfl (b_Verifier_isFit (by omega) h) (fun x1 M1 h => ?_)
    refine r_if_eq (kd114 rfl) rfl (fun c => ?_) (fun c => ?_)
    · have h := h.1 c
      exact (b_Verifier_isFitObject_166 hd h).less e_sn
    · have h := h.2 c
      refine r_aload_n (kd114 rfl) rfl rfl ?_
      refine r_iload_n (kd114 rfl) rfl rfl ?_
      refine r_aload_n (kd114 rfl) rfl rfl ?_
      obtain ⟨g, h⟩ := h
      refine r_get2 (kd114 rfl) (by decide) rfl g rfl ?_
      obtain ⟨g, h⟩ := h
      refine r_get2 (kd114 rfl) (by decide) rfl g rfl ?_
      refine r_iload (kd114 rfl) rfl rfl ?_
      refine r_bipush (kd114 rfl) (y := 8) (by decide) rfl ?_
      refine r_imul (kd114 rfl) rfl ?_
      refine r_aload_n (kd114 rfl) rfl rfl ?_
      obtain ⟨g, h⟩ := h
      refine r_get2 (kd114 rfl) (by decide) rfl g rfl ?_
      obtain ⟨g, h⟩ := h
      refine r_get2 (kd114 rfl) (by decide) rfl g rfl ?_
      refine r_iload_n (kd114 rfl) rfl rfl ?_
      refine r_iconst (kd114 rfl) (y := 2) (by decide) rfl ?_
      refine r_iadd (kd114 rfl) rfl ?_
      obtain ⟨g, h⟩ := h
      refine r_iaload (kd114 rfl) g rfl ?_
      refine r_iadd (kd114 rfl) rfl ?_
      obtain ⟨g, h⟩ := h
      refine r_iaload (kd114 rfl) g rfl ?_
      obtain ⟨g, h⟩ := h
      refine r_callVI (d' := d - 1) (by omega) (kd114 rfl) (by decide) rfl rfl rfl rfl (Nat.le_of_ble_eq_true rfl) rfl L117 (Nat.le_of_ble_eq_true rfl) (Nat.le_of_ble_eq_true rfl) g (Nat.zero_le _) (Nat.zero_le _) rfl rfl rfl (b_Verifier_isFit (by omega) h) (fun x1 M1 h => ?_)
      refine r_if_eq (kd114 rfl) rfl (fun c => ?_) (fun c => ?_)
      · have h := h.1 c
        exact (b_Verifier_isFitObject_166 hd h).less e_sn
      · have h := h.2 c
        refine r_iconst (kd114 rfl) (y := 1) (by decide) rfl ?_
        refine r_goto (kd114 rfl) ?_
        exact (b_Verifier_isFitObject_167 hd h).less e_sn
  have h := h.2 c
  refine ⟨fun c => ?_, fun c => ?_⟩
  · have h := h.1 c
    refine r_iload_n (kd114 rfl) rfl rfl ?_
    refine r_iconst (kd114 rfl) (y := 1) (by decide) rfl ?_
    refine r_icmp_ne (kd114 rfl) rfl (fun c => ?_) (fun c => ?_)
    · have h := h.1 c
      refine r_iconst (kd114 rfl) (y := 0) (by decide) rfl ?_
      exact (b_Verifier_isFitObject_178 hd h).less e_sn
    · have h := h.2 c
      refine r_iconst (kd114 rfl) (y := 1) (by decide) rfl ?_
      refine r_goto (kd114 rfl) ?_
      exact (b_Verifier_isFitObject_178 hd h).less e_sn
  have h := h.2 c
  refine ⟨fun c => ?_, fun c => ?_⟩
  · have h := h.1 c
    refine r_aload_n (kd114 rfl) rfl rfl ?_
    refine r_iload (kd114 rfl) rfl rfl ?_
    refine r_iconst (kd114 rfl) (y := 2) (by decide) rfl ?_
    obtain ⟨g, h⟩ := h
    refine r_callVI (d' := d - 1) (by omega) (kd114 rfl) (by decide) rfl rfl rfl rfl (Nat.le_of_ble_eq_true rfl) rfl L117 (Nat.le_of_ble_eq_true rfl) (Nat.le_of_ble_eq_true rfl) g (Nat.zero_le _) (Nat.zero_le _) rfl rfl rfl (b_Verifier_isFit (by omega) h) (fun x1 M1 h => ?_)
    refine r_if_eq (kd114 rfl) rfl (fun c => ?_) (fun c => ?_)
    · have h := h.1 c
      exact (b_Verifier_isFitObject_198 hd h).less e_sn
    · have h := h.2 c
      refine r_iload_n (kd114 rfl) rfl rfl ?_
      refine r_iconst (kd114 rfl) (y := 1) (by decide) rfl ?_
      refine r_icmp_ne (kd114 rfl) rfl (fun c => ?_) (fun c => ?_)
      · have h := h.1 c
        exact (b_Verifier_isFitObject_198 hd h).less e_sn
      · have h := h.2 c
        refine r_iconst (kd114 rfl) (y := 1) (by decide) rfl ?_
        refine r_goto (kd114 rfl) ?_
        exact (b_Verifier_isFitObject_199 hd h).less e_sn
  have h := h.2 c
  refine ⟨fun c => ?_, fun c => ?_⟩
  · have h := h.1 c
    refine r_aload_n (kd114 rfl) rfl rfl ?_
    refine r_aload_n (kd114 rfl) rfl rfl ?_
    refine r_iconst (kd114 rfl) (y := 2) (by decide) rfl ?_
    obtain ⟨g, h⟩ := h
    refine r_callVI (d' := d - 1) (by omega) (kd114 rfl) (by decide) rfl rfl rfl rfl (Nat.le_of_ble_eq_true rfl) rfl L111 (Nat.le_of_ble_eq_true rfl) (Nat.le_of_ble_eq_true rfl) g (Nat.zero_le _) (Nat.zero_le _) rfl rfl rfl (b_Verifier_fromTop (by omega) h) (fun x1 M1 h => ?_)
    refine r_iconst (kd114 rfl) (y := 2) (by decide) rfl ?_
    obtain ⟨g, h⟩ := h
    refine r_callVI (d' := d - 1) (by omega) (kd114 rfl) (by decide) rfl rfl rfl rfl (Nat.le_of_ble_eq_true rfl) rfl L117 (Nat.le_of_ble_eq_true rfl) (Nat.le_of_ble_eq_true rfl) g (Nat.zero_le _) (Nat.zero_le _) rfl rfl rfl (b_Verifier_isFit (by omega) h) (fun x1 M1 h => ?_)
    refine r_if_eq (kd114 rfl) rfl (fun c => ?_) (fun c => ?_)
    · have h := h.1 c
      exact (b_Verifier_isFitObject_228 hd h).less e_sn
    · have h := h.2 c
      refine r_iload (kd114 rfl) rfl rfl ?_
      refine r_iconst (kd114 rfl) (y := 1) (by decide) rfl ?_
      refine r_icmp_ne (kd114 rfl) rfl (fun c => ?_) (fun c => ?_)
      · have h := h.1 c
        exact (b_Verifier_isFitObject_228 hd h).less e_sn
      · have h := h.2 c
        refine r_iload_n (kd114 rfl) rfl rfl ?_
        refine r_iconst (kd114 rfl) (y := 1) (by decide) rfl ?_
        refine r_icmp_ne (kd114 rfl) rfl (fun c => ?_) (fun c => ?_)
        · have h := h.1 c
          exact (b_Verifier_isFitObject_228 hd h).less e_sn
        · have h := h.2 c
          refine r_iconst (kd114 rfl) (y := 1) (by decide) rfl ?_
          refine r_goto (kd114 rfl) ?_
          exact (b_Verifier_isFitObject_229 hd h).less e_sn
  have h := h.2 c
  refine ⟨fun c => ?_, fun c => ?_⟩
  · have h := h.1 c
    refine r_aload_n (kd114 rfl) rfl rfl ?_
    refine r_iload_n (kd114 rfl) rfl rfl ?_
    refine r_iconst (kd114 rfl) (y := 2) (by decide) rfl ?_
    obtain ⟨g, h⟩ := h
    refine r_callVI (d' := d - 1) (by omega) (kd114 rfl) (by decide) rfl rfl rfl rfl (Nat.le_of_ble_eq_true rfl) rfl L117 (Nat.le_of_ble_eq_true rfl) (Nat.le_of_ble_eq_true rfl) g (Nat.zero_le _) (Nat.zero_le _) rfl rfl rfl (b_Verifier_isFit (by omega) h) (fun x1 M1 h => ?_)
    exact r_zreturn (kd114 rfl) R114 h.1 h.2
  have h := h.2 c
  refine ⟨fun c => ?_, fun c => ?_⟩
  · have h := h.1 c
    exact (b_Verifier_isFitObject_237 hd h).less (e_sc (List.mem_of_getElem? (i := 4) rfl) e_sn)
  have h := h.2 c
  refine ⟨fun c => ?_, fun c => ?_⟩
  · have h := h.1 c
    exact (b_Verifier_isFitObject_237 hd h).less (e_sc (List.mem_of_getElem? (i := 4) rfl) e_sn)
  have h := h.2 c
  refine ⟨fun c => ?_, fun c => ?_⟩
  · have h := h.1 c
    refine r_aload_n (kd114 rfl) rfl rfl ?_
    refine r_aload_n (kd114 rfl) rfl rfl ?_
    obtain ⟨g, h⟩ := h
    refine r_get2 (kd114 rfl) (by decide) rfl g rfl ?_
    obtain ⟨g, h⟩ := h
    refine r_get2 (kd114 rfl) (by decide) rfl g rfl ?_
    refine r_iload (kd114 rfl) rfl rfl ?_
    obtain ⟨g, h⟩ := h
    refine r_aaload (kd114 rfl) g rfl ?_
    obtain ⟨g, h⟩ := h
    refine r_callVI (d' := d - 1) (by omega) (kd114 rfl) (by decide) rfl rfl rfl rfl (Nat.le_of_ble_eq_true rfl) rfl L115 (Nat.le_of_ble_eq_true rfl) (Nat.le_of_ble_eq_true rfl) g (Nat.zero_le _) (Nat.zero_le _) rfl rfl rfl (b_Verifier_areParamsFit (by omega) h) (fun x1 M1 h => ?_)
    exact r_zreturn (kd114 rfl) R114 h.1 h.2
  have h := h.2 c
  refine ⟨fun c => ?_, fun c => ?_⟩
  · have h := h.1 c
    refine r_aload_n (kd114 rfl) rfl rfl ?_
    refine r_aload_n (kd114 rfl) rfl rfl ?_
    obtain ⟨g, h⟩ := h
    refine r_get2 (kd114 rfl) (by decide) rfl g rfl ?_
    obtain ⟨g, h⟩ := h
    refine r_get2 (kd114 rfl) (by decide) rfl g rfl ?_
    refine r_iload (kd114 rfl) rfl rfl ?_
    obtain ⟨g, h⟩ := h
    refine r_aaload (kd114 rfl) g rfl ?_
    obtain ⟨g, h⟩ := h
    refine r_callVI (d' := d - 1) (by omega) (kd114 rfl) (by decide) rfl rfl rfl rfl (Nat.le_of_ble_eq_true rfl) rfl L115 (Nat.le_of_ble_eq_true rfl) (Nat.le_of_ble_eq_true rfl) g (Nat.zero_le _) (Nat.zero_le _) rfl rfl rfl (b_Verifier_areParamsFit (by omega) h) (fun x1 M1 h => ?_)
    refine r_if_eq (kd114 rfl) rfl (fun c => ?_) (fun c => ?_)
    · have h := h.1 c
      exact (b_Verifier_isFitObject_299 hd h).less e_sn
    · have h := h.2 c
      refine r_aload_n (kd114 rfl) rfl rfl ?_
      refine r_iload (kd114 rfl) rfl rfl ?_
      obtain ⟨g, h⟩ := h
      refine r_callVI (d' := d - 1) (by omega) (kd114 rfl) (by decide) rfl rfl rfl rfl (Nat.le_of_ble_eq_true rfl) rfl L116 (Nat.le_of_ble_eq_true rfl) (Nat.le_of_ble_eq_true rfl) g (Nat.zero_le _) (Nat.zero_le _) rfl rfl rfl (b_Verifier_hasMethod (by omega) h) (fun x1 M1 h => ?_)
      refine r_if_eq (kd114 rfl) rfl (fun c => ?_) (fun c => ?_)
      · have h := h.1 c
        exact (b_Verifier_isFitObject_299 hd h).less e_sn
      · have h := h.2 c
        refine r_iconst (kd114 rfl) (y := 1) (by decide) rfl ?_
        refine r_goto (kd114 rfl) ?_
        exact (b_Verifier_isFitObject_300 hd h).less e_sn
  have h := h.2 c
  refine ⟨fun c => ?_, fun c => ?_⟩
  · have h := h.1 c
    refine r_aload_n (kd114 rfl) rfl rfl ?_
    obtain ⟨g, h⟩ := h
    refine r_get2 (kd114 rfl) (by decide) rfl g rfl ?_
    obtain ⟨g, h⟩ := h
    refine r_get0 (kd114 rfl) (by decide) rfl g rfl ?_
    refine r_if_ne (kd114 rfl) rfl (fun c => ?_) (fun c => ?_)
    · have h := h.1 c
      refine r_iconst (kd114 rfl) (y := 0) (by decide) rfl ?_
      exact (b_Verifier_isFitObject_316 hd h).less e_sn
    · have h := h.2 c
      refine r_iconst (kd114 rfl) (y := 1) (by decide) rfl ?_
      refine r_goto (kd114 rfl) ?_
      exact (b_Verifier_isFitObject_316 hd h).less e_sn
  have h := h.2 c
  refine ⟨fun c => ?_, fun c => ?_⟩
  · have h := h.1 c
    refine r_aload_n (kd114 rfl) rfl rfl ?_
    obtain ⟨g, h⟩ := h
    refine r_get2 (kd114 rfl) (by decide) rfl g rfl ?_
    obtain ⟨g, h⟩ := h
    refine r_get0 (kd114 rfl) (by decide) rfl g rfl ?_
    refine r_if_eq (kd114 rfl) rfl (fun c => ?_) (fun c => ?_)
    · have h := h.1 c
      exact (b_Verifier_isFitObject_346 hd h).less e_sn
    · have h := h.2 c
      refine r_aload_n (kd114 rfl) rfl rfl ?_
      refine r_iload_n (kd114 rfl) rfl rfl ?_
      refine r_aload_n (kd114 rfl) rfl rfl ?_
      obtain ⟨g, h⟩ := h
      refine r_get2 (kd114 rfl) (by decide) rfl g rfl ?_
      obtain ⟨g, h⟩ := h
      refine r_get0 (kd114 rfl) (by decide) rfl g rfl ?_
      obtain ⟨g, h⟩ := h
      refine r_callVI (d' := d - 1) (by omega) (kd114 rfl) (by decide) rfl rfl rfl rfl (Nat.le_of_ble_eq_true rfl) rfl L117 (Nat.le_of_ble_eq_true rfl) (Nat.le_of_ble_eq_true rfl) g (Nat.zero_le _) (Nat.zero_le _) rfl rfl rfl (b_Verifier_isFit (by omega) h) (fun x1 M1 h => ?_)
      refine r_if_eq (kd114 rfl) rfl (fun c => ?_) (fun c => ?_)
      · have h := h.1 c
        exact (b_Verifier_isFitObject_346 hd h).less e_sn
      · have h := h.2 c
        refine r_iconst (kd114 rfl) (y := 1) (by decide) rfl ?_
        refine r_goto (kd114 rfl) ?_
        exact (b_Verifier_isFitObject_347 hd h).less e_sn
  have h := h.2 c
  show e_E 114 _ _ _ 348 _ _ _ _
  refine r_iconst (kd114 rfl) (y := 1) (by decide) rfl ?_
  exact r_zreturn (kd114 rfl) R114 h.1 h.2
set_option maxRecDepth 100000 in
def w_Verifier_isFitObject (l0 : Nat) (l1 : Int32) (l2 : Int32) (M : eM) (Q : Int32 → eM → Prop) : Prop := e_ob M l0 10 ∧ w_Verifier_fromTop l0 0 M (fun (v2 : Int32) (M1 : eM) => e_ob M1 l0 10 ∧ w_Verifier_fromTop l0 1 M1 (fun (v4 : Int32) (M3 : eM) => e_ai M3 2 l2 ∧ ((gi M3 2 l2.toNatClampNeg) ≤ 1 → w_Verifier_isFitObject_37 l0 l1 l2 v2 v4 0 M3 Q) ∧ (¬ (gi M3 2 l2.toNatClampNeg) ≤ 1 → e_ob M3 l0 10 ∧ e_ob M3 (gr M3 l0 3) 6 ∧ e_ai M3 (gr M3 (gr M3 l0 3) 0) (l1 + 1) ∧ w_Verifier_isFitObject_37 l0 l1 l2 v2 v4 (gi M3 (gr M3 (gr M3 l0 3) 0) (l1 + 1).toNatClampNeg) M3 Q)))
set_option maxRecDepth 100000 in
theorem b_Verifier_isFitObject {d : Nat} {l0 : Nat} {l1 : Int32} {l2 : Int32} {M : eM} {Q : Int32 → eM → Prop} (hd : 3 ≤ d) (h : w_Verifier_isFitObject l0 l1 l2 M Q) : e_CI 114 d 0 0 [.ref l0, .int l1, .int l2] M Q := by
  unfold w_Verifier_isFitObject at h
  show e_E 114 d 0 0 0 [(0, .ref l0), (1, .int l1), (2, .int l2)] [] M (e_QI Q)
  refine r_aload_n (kd114 rfl) rfl rfl ?_
  refine r_iconst (kd114 rfl) (y := 0) (by decide) rfl ?_
  obtain ⟨g, h⟩ := h
  refine r_callVI (d' := d - 1) (by omega) (kd114 rfl) (by decide) rfl rfl rfl rfl (Nat.le_of_ble_eq_true rfl) rfl L111 (Nat.le_of_ble_eq_true rfl) (Nat.le_of_ble_eq_true rfl) g (Nat.zero_le _) (Nat.zero_le _) rfl rfl rfl (b_Verifier_fromTop (by omega) h) (fun x1 M1 h => ?_)
  refine r_istore_n (kd114 rfl) L114 (by decide) rfl rfl ?_
  refine r_aload_n (kd114 rfl) rfl rfl ?_
  refine r_iconst (kd114 rfl) (y := 1) (by decide) rfl ?_
  obtain ⟨g, h⟩ := h
  refine r_callVI (d' := d - 1) (by omega) (kd114 rfl) (by decide) rfl rfl rfl rfl (Nat.le_of_ble_eq_true rfl) rfl L111 (Nat.le_of_ble_eq_true rfl) (Nat.le_of_ble_eq_true rfl) g (Nat.zero_le _) (Nat.zero_le _) rfl rfl rfl (b_Verifier_fromTop (by omega) h) (fun x1 M1 h => ?_)
  refine r_istore (kd114 rfl) L114 (by decide) rfl rfl ?_
  refine r_getstatic (kd114 rfl) (by decide) rfl ?_
  refine r_iload_n (kd114 rfl) rfl rfl ?_
  obtain ⟨g, h⟩ := h
  refine r_iaload (kd114 rfl) g rfl ?_
  refine r_iconst (kd114 rfl) (y := 1) (by decide) rfl ?_
  refine r_icmp_le (kd114 rfl) rfl (fun c => ?_) (fun c => ?_)
  · have h := h.1 c
    refine r_iconst (kd114 rfl) (y := 0) (by decide) rfl ?_
    exact (b_Verifier_isFitObject_37 hd h).less (e_sc (List.mem_of_getElem? (i := 2) rfl) (e_sc (List.mem_of_getElem? (i := 3) rfl) (e_sc (List.mem_of_getElem? (i := 4) rfl) (e_sc (List.mem_of_getElem? (i := 1) rfl) (e_sc (List.mem_of_getElem? (i := 0) rfl) e_sn)))))
  · have h := h.2 c
    refine r_aload_n (kd114 rfl) rfl rfl ?_
    obtain ⟨g, h⟩ := h
    refine r_get2 (kd114 rfl) (by decide) rfl g rfl ?_
    obtain ⟨g, h⟩ := h
    refine r_get2 (kd114 rfl) (by decide) rfl g rfl ?_
    refine r_iload_n (kd114 rfl) rfl rfl ?_
    refine r_iconst (kd114 rfl) (y := 1) (by decide) rfl ?_
    refine r_iadd (kd114 rfl) rfl ?_
    obtain ⟨g, h⟩ := h
    refine r_iaload (kd114 rfl) g rfl ?_
    refine r_goto (kd114 rfl) ?_
    exact (b_Verifier_isFitObject_37 hd h).less (e_sc (List.mem_of_getElem? (i := 2) rfl) (e_sc (List.mem_of_getElem? (i := 3) rfl) (e_sc (List.mem_of_getElem? (i := 4) rfl) (e_sc (List.mem_of_getElem? (i := 1) rfl) (e_sc (List.mem_of_getElem? (i := 0) rfl) e_sn)))))
/-- TierMill$Verifier.isWrong(I)Z -/
theorem kd110 {pc : Nat} {q : eI} (h : e_d110.lookup pc = some q) : e_dec 110 pc = some q := h
theorem L110 : (e_m 110).2.2.1 = 5 := rfl
theorem R110 : (e_m 110).2.2.2.1 = (some .boolean) := rfl
def w_Verifier_isWrong_62 (M : eM) (Q : Int32 → eM → Prop) : Prop := ((1 : Int32) = 0 ∨ (1 : Int32) = 1) ∧ Q (1 : Int32) M
theorem b_Verifier_isWrong_62 {d : Nat} {M : eM} {Q : Int32 → eM → Prop} (hd : 4 ≤ d) (h : w_Verifier_isWrong_62 M Q ) : e_E 110 d 0 0 62 [] [] M (e_QI Q) := by
  unfold w_Verifier_isWrong_62 at h
  refine r_iconst (kd110 rfl) (y := 1) (by decide) rfl ?_
  exact r_zreturn (kd110 rfl) R110 h.1 h.2
def w_Verifier_isWrong_138 (s0 : Int32) (M : eM) (Q : Int32 → eM → Prop) : Prop := (s0 = 0 ∨ s0 = 1) ∧ Q s0 M
theorem b_Verifier_isWrong_138 {d : Nat} {s0 : Int32} {M : eM} {Q : Int32 → eM → Prop} (hd : 4 ≤ d) (h : w_Verifier_isWrong_138 s0 M Q ) : e_E 110 d 0 0 138 [] [.int s0] M (e_QI Q) := by
  unfold w_Verifier_isWrong_138 at h
  exact r_zreturn (kd110 rfl) R110 h.1 h.2
def w_Verifier_isWrong_107 (l0 : Nat) (l1 : Int32) (l3 : Int32) (M : eM) (Q : Int32 → eM → Prop) : Prop := e_ob M l0 10 ∧ w_Verifier_isFitPlain l0 l1 l3 M (fun (v11 : Int32) (M10 : eM) => (¬ v11 = 0 → w_Verifier_isWrong_138 0 M10 Q) ∧ (v11 = 0 → w_Verifier_isWrong_138 1 M10 Q))
theorem b_Verifier_isWrong_107 {d : Nat} {l0 : Nat} {l1 : Int32} {l3 : Int32} {M : eM} {Q : Int32 → eM → Prop} (hd : 4 ≤ d) (h : w_Verifier_isWrong_107 l0 l1 l3 M Q ) : e_E 110 d 0 0 107 [(0, .ref l0), (1, .int l1), (3, .int l3)] [] M (e_QI Q) := by
  unfold w_Verifier_isWrong_107 at h
  refine r_aload_n (kd110 rfl) rfl rfl ?_
  refine r_iload_n (kd110 rfl) rfl rfl ?_
  refine r_iload_n (kd110 rfl) rfl rfl ?_
  obtain ⟨g, h⟩ := h
  refine r_callVI (d' := d - 1) (by omega) (kd110 rfl) (by decide) rfl rfl rfl rfl (Nat.le_of_ble_eq_true rfl) rfl L112 (Nat.le_of_ble_eq_true rfl) (Nat.le_of_ble_eq_true rfl) g (Nat.zero_le _) (Nat.zero_le _) rfl rfl rfl (b_Verifier_isFitPlain (by omega) h) (fun x1 M1 h => ?_)
  refine r_if_ne (kd110 rfl) rfl (fun c => ?_) (fun c => ?_)
  · have h := h.1 c
    refine r_iconst (kd110 rfl) (y := 0) (by decide) rfl ?_
    refine r_goto (kd110 rfl) ?_
    exact (b_Verifier_isWrong_138 hd h).less e_sn
  · have h := h.2 c
    refine r_iconst (kd110 rfl) (y := 1) (by decide) rfl ?_
    refine r_goto (kd110 rfl) ?_
    exact (b_Verifier_isWrong_138 hd h).less e_sn
def w_Verifier_isWrong (l0 : Nat) (l1 : Int32) (M : eM) (Q : Int32 → eM → Prop) : Prop := e_ob M l0 10 ∧ e_ob M (gr M l0 3) 6 ∧ e_ai M (gr M (gr M l0 3) 15) l1 ∧ (¬ (gi M (gr M (gr M l0 3) 15) l1.toNatClampNeg) = (-1) → e_ob M l0 10 ∧ e_ob M (gr M l0 3) 6 ∧ e_ai M (gr M (gr M l0 3) 0) l1 ∧ e_ob M l0 10 ∧ w_Verifier_takesAt l0 l1 (gi M (gr M (gr M l0 3) 0) l1.toNatClampNeg) M (fun (v2 : Int32) (M1 : eM) => ((gi M (gr M (gr M l0 3) 15) l1.toNatClampNeg) < v2 → w_Verifier_isWrong_62 M1 Q) ∧ (¬ (gi M (gr M (gr M l0 3) 15) l1.toNatClampNeg) < v2 → e_ob M1 l0 10 ∧ w_Verifier_putsAt l0 l1 (gi M (gr M (gr M l0 3) 0) l1.toNatClampNeg) M1 (fun (v4 : Int32) (M3 : eM) => e_ob M3 l0 10 ∧ e_ob M3 (gr M3 l0 4) 8 ∧ ((((gi M (gr M (gr M l0 3) 15) l1.toNatClampNeg) - v2) + v4) ≤ (gi M3 (gr M3 l0 4) 4) → e_ob M3 l0 10 ∧ e_ob M3 (gr M3 l0 3) 6 ∧ e_ar M3 (gr M3 (gr M3 l0 3) 17) 21 l1 ∧ e_ob M3 l0 10 ∧ ∀ M5 : eM, M5 = e_sl M3 l0 8 (gl M3 (gr M3 (gr M3 l0 3) 17) l1.toNatClampNeg) → e_ob M5 l0 10 ∧ e_ob M5 (gr M5 l0 3) 6 ∧ e_ar M5 (gr M5 (gr M5 l0 3) 16) 21 l1 ∧ e_ob M5 l0 10 ∧ ∀ M6 : eM, M6 = e_sl M5 l0 7 (gl M5 (gr M5 (gr M5 l0 3) 16) l1.toNatClampNeg) → e_ob M6 l0 10 ∧ ∀ M7 : eM, M7 = e_si M6 l0 6 (gi M (gr M (gr M l0 3) 15) l1.toNatClampNeg) → ((gi M (gr M (gr M l0 3) 0) l1.toNatClampNeg) ≤ 37 → w_Verifier_isWrong_107 l0 l1 (gi M (gr M (gr M l0 3) 0) l1.toNatClampNeg) M7 Q) ∧ (¬ (gi M (gr M (gr M l0 3) 0) l1.toNatClampNeg) ≤ 37 → ((gi M (gr M (gr M l0 3) 0) l1.toNatClampNeg) < 51 → e_ob M7 l0 10 ∧ w_Verifier_isFitObject l0 l1 (gi M (gr M (gr M l0 3) 0) l1.toNatClampNeg) M7 (fun (v9 : Int32) (M8 : eM) => (¬ v9 = 0 → w_Verifier_isWrong_138 0 M8 Q) ∧ (v9 = 0 → w_Verifier_isWrong_138 1 M8 Q))) ∧ (¬ (gi M (gr M (gr M l0 3) 0) l1.toNatClampNeg) < 51 → w_Verifier_isWrong_107 l0 l1 (gi M (gr M (gr M l0 3) 0) l1.toNatClampNeg) M7 Q))) ∧ (¬ (((gi M (gr M (gr M l0 3) 15) l1.toNatClampNeg) - v2) + v4) ≤ (gi M3 (gr M3 l0 4) 4) → w_Verifier_isWrong_62 M3 Q))))) ∧ ((gi M (gr M (gr M l0 3) 15) l1.toNatClampNeg) = (-1) → ((0 : Int32) = 0 ∨ (0 : Int32) = 1) ∧ Q (0 : Int32) M)
theorem b_Verifier_isWrong {d : Nat} {l0 : Nat} {l1 : Int32} {M : eM} {Q : Int32 → eM → Prop} (hd : 4 ≤ d) (h : w_Verifier_isWrong l0 l1 M Q) : e_CI 110 d 0 0 [.ref l0, .int l1] M Q := by
  unfold w_Verifier_isWrong at h
  show e_E 110 d 0 0 0 [(0, .ref l0), (1, .int l1)] [] M (e_QI Q)
  refine r_aload_n (kd110 rfl) rfl rfl ?_
  obtain ⟨g, h⟩ := h
  refine r_get2 (kd110 rfl) (by decide) rfl g rfl ?_
  obtain ⟨g, h⟩ := h
  refine r_get2 (kd110 rfl) (by decide) rfl g rfl ?_
  refine r_iload_n (kd110 rfl) rfl rfl ?_
  obtain ⟨g, h⟩ := h
  refine r_iaload (kd110 rfl) g rfl ?_
  refine r_istore_n (kd110 rfl) L110 (by decide) rfl rfl ?_
  refine r_iload_n (kd110 rfl) rfl rfl ?_
  refine r_iconst (kd110 rfl) (y := (-1)) (by decide) rfl ?_
  refine r_icmp_ne (kd110 rfl) rfl (fun c => ?_) (fun c => ?_)
  · have h := h.1 c
    refine r_aload_n (kd110 rfl) rfl rfl ?_
    obtain ⟨g, h⟩ := h
    refine r_get2 (kd110 rfl) (by decide) rfl g rfl ?_
    obtain ⟨g, h⟩ := h
    refine r_get2 (kd110 rfl) (by decide) rfl g rfl ?_
    refine r_iload_n (kd110 rfl) rfl rfl ?_
    obtain ⟨g, h⟩ := h
    refine r_iaload (kd110 rfl) g rfl ?_
    refine r_istore_n (kd110 rfl) L110 (by decide) rfl rfl ?_
    refine r_aload_n (kd110 rfl) rfl rfl ?_
    refine r_iload_n (kd110 rfl) rfl rfl ?_
    refine r_iload_n (kd110 rfl) rfl rfl ?_
    obtain ⟨g, h⟩ := h
    refine r_callVI (d' := d - 1) (by omega) (kd110 rfl) (by decide) rfl rfl rfl rfl (Nat.le_of_ble_eq_true rfl) rfl L102 (Nat.le_of_ble_eq_true rfl) (Nat.le_of_ble_eq_true rfl) g (Nat.zero_le _) (Nat.zero_le _) rfl rfl rfl (b_Verifier_takesAt (by omega) h) (fun x1 M1 h => ?_)
    refine r_istore (kd110 rfl) L110 (by decide) rfl rfl ?_
    refine r_iload_n (kd110 rfl) rfl rfl ?_
    refine r_iload (kd110 rfl) rfl rfl ?_
    refine r_icmp_lt (kd110 rfl) rfl (fun c => ?_) (fun c => ?_)
    · have h := h.1 c
      exact (b_Verifier_isWrong_62 hd h).less e_sn
    · have h := h.2 c
      refine r_iload_n (kd110 rfl) rfl rfl ?_
      refine r_iload (kd110 rfl) rfl rfl ?_
      refine r_isub (kd110 rfl) rfl ?_
      refine r_aload_n (kd110 rfl) rfl rfl ?_
      refine r_iload_n (kd110 rfl) rfl rfl ?_
      refine r_iload_n (kd110 rfl) rfl rfl ?_
      obtain ⟨g, h⟩ := h
      refine r_callVI (d' := d - 1) (by omega) (kd110 rfl) (by decide) rfl rfl rfl rfl (Nat.le_of_ble_eq_true rfl) rfl L103 (Nat.le_of_ble_eq_true rfl) (Nat.le_of_ble_eq_true rfl) g (Nat.zero_le _) (Nat.zero_le _) rfl rfl rfl (b_Verifier_putsAt (by omega) h) (fun x1 M1 h => ?_)
      refine r_iadd (kd110 rfl) rfl ?_
      refine r_aload_n (kd110 rfl) rfl rfl ?_
      obtain ⟨g, h⟩ := h
      refine r_get2 (kd110 rfl) (by decide) rfl g rfl ?_
      obtain ⟨g, h⟩ := h
      refine r_get0 (kd110 rfl) (by decide) rfl g rfl ?_
      refine r_icmp_le (kd110 rfl) rfl (fun c => ?_) (fun c => ?_)
      · have h := h.1 c
        refine r_aload_n (kd110 rfl) rfl rfl ?_
        refine r_aload_n (kd110 rfl) rfl rfl ?_
        obtain ⟨g, h⟩ := h
        refine r_get2 (kd110 rfl) (by decide) rfl g rfl ?_
        obtain ⟨g, h⟩ := h
        refine r_get2 (kd110 rfl) (by decide) rfl g rfl ?_
        refine r_iload_n (kd110 rfl) rfl rfl ?_
        obtain ⟨g, h⟩ := h
        refine r_laload (kd110 rfl) g rfl ?_
        obtain ⟨g, h⟩ := h
        have h := h _ rfl
        refine r_put1 (kd110 rfl) (by decide) rfl g rfl ?_
        refine r_aload_n (kd110 rfl) rfl rfl ?_
        refine r_aload_n (kd110 rfl) rfl rfl ?_
        obtain ⟨g, h⟩ := h
        refine r_get2 (kd110 rfl) (by decide) rfl g rfl ?_
        obtain ⟨g, h⟩ := h
        refine r_get2 (kd110 rfl) (by decide) rfl g rfl ?_
        refine r_iload_n (kd110 rfl) rfl rfl ?_
        obtain ⟨g, h⟩ := h
        refine r_laload (kd110 rfl) g rfl ?_
        obtain ⟨g, h⟩ := h
        have h := h _ rfl
        refine r_put1 (kd110 rfl) (by decide) rfl g rfl ?_
        refine r_aload_n (kd110 rfl) rfl rfl ?_
        refine r_iload_n (kd110 rfl) rfl rfl ?_
        obtain ⟨g, h⟩ := h
        have h := h _ rfl
        refine r_put0 (kd110 rfl) (by decide) rfl g rfl ?_
        refine r_iload_n (kd110 rfl) rfl rfl ?_
        refine r_bipush (kd110 rfl) (y := 37) (by decide) rfl ?_
        refine r_icmp_le (kd110 rfl) rfl (fun c => ?_) (fun c => ?_)
        · have h := h.1 c
          exact (b_Verifier_isWrong_107 hd h).less (e_sc (List.mem_of_getElem? (i := 3) rfl) (e_sc (List.mem_of_getElem? (i := 4) rfl) (e_sc (List.mem_of_getElem? (i := 1) rfl) e_sn)))
        · have h := h.2 c
          refine r_iload_n (kd110 rfl) rfl rfl ?_
          refine r_bipush (kd110 rfl) (y := 51) (by decide) rfl ?_
          refine r_icmp_lt (kd110 rfl) rfl (fun c => ?_) (fun c => ?_)
          · have h := h.1 c
            refine r_aload_n (kd110 rfl) rfl rfl ?_
            refine r_iload_n (kd110 rfl) rfl rfl ?_
            refine r_iload_n (kd110 rfl) rfl rfl ?_
            obtain ⟨g, h⟩ := h
            refine r_callVI (d' := d - 1) (by omega) (kd110 rfl) (by decide) rfl rfl rfl rfl (Nat.le_of_ble_eq_true rfl) rfl L114 (Nat.le_of_ble_eq_true rfl) (Nat.le_of_ble_eq_true rfl) g (Nat.zero_le _) (Nat.zero_le _) rfl rfl rfl (b_Verifier_isFitObject (by omega) h) (fun x1 M1 h => ?_)
            refine r_if_ne (kd110 rfl) rfl (fun c => ?_) (fun c => ?_)
            · have h := h.1 c
              refine r_iconst (kd110 rfl) (y := 0) (by decide) rfl ?_
              exact (b_Verifier_isWrong_138 hd h).less e_sn
            · have h := h.2 c
              refine r_iconst (kd110 rfl) (y := 1) (by decide) rfl ?_
              refine r_goto (kd110 rfl) ?_
              exact (b_Verifier_isWrong_138 hd h).less e_sn
          · have h := h.2 c
            exact (b_Verifier_isWrong_107 hd h).less (e_sc (List.mem_of_getElem? (i := 3) rfl) (e_sc (List.mem_of_getElem? (i := 4) rfl) (e_sc (List.mem_of_getElem? (i := 1) rfl) e_sn)))
      · have h := h.2 c
        exact (b_Verifier_isWrong_62 hd h).less e_sn
  · have h := h.2 c
    refine r_iconst (kd110 rfl) (y := 0) (by decide) rfl ?_
    exact r_zreturn (kd110 rfl) R110 h.1 h.2
/-- TierMill$Verifier.findsFault(LTierMill$Program;)Z -/
theorem kd96 {pc : Nat} {q : eI} (h : e_d96.lookup pc = some q) : e_dec 96 pc = some q := h
theorem L96 : (e_m 96).2.2.1 = 4 := rfl
theorem R96 : (e_m 96).2.2.2.1 = (some .boolean) := rfl
def w_Verifier_findsFault_96 (kc ks : Nat) (l0 : Nat) (l2 : Int32) (l3 : Int32) (M : eM) (Q : Int32 → eM → Prop) (k7 : Nat → Nat → Nat → Int32 → eM → Prop) (k37 : Nat → Nat → Nat → Int32 → Int32 → eM → Prop) : Prop := k37 kc ks l0 l2 (l3 + 1) M
theorem b_Verifier_findsFault_96 {d : Nat} {kc ks : Nat} {l0 : Nat} {l2 : Int32} {l3 : Int32} {M : eM} {Q : Int32 → eM → Prop} {k7 : Nat → Nat → Nat → Int32 → eM → Prop} {k37 : Nat → Nat → Nat → Int32 → Int32 → eM → Prop} (hd : 6 ≤ d) (hk7 : ∀ (kc ks : Nat) (l0 : Nat) (l2 : Int32) (M : eM), k7 kc ks l0 l2 M → e_E 96 d kc ks 7 [(0, .ref l0), (2, .int l2)] [] M (e_QI Q)) (hk37 : ∀ (kc ks : Nat) (l0 : Nat) (l2 : Int32) (l3 : Int32) (M : eM), k37 kc ks l0 l2 l3 M → e_E 96 d kc ks 37 [(0, .ref l0), (2, .int l2), (3, .int l3)] [] M (e_QI Q)) (h : w_Verifier_findsFault_96 kc ks l0 l2 l3 M Q k7 k37) : e_E 96 d kc ks 96 [(0, .ref l0), (2, .int l2), (3, .int l3)] [] M (e_QI Q) := by
  unfold w_Verifier_findsFault_96 at h
  refine r_iinc (kd96 rfl) rfl (y := 1) (by decide) L96 (by decide) rfl rfl ?_
  refine r_goto (kd96 rfl) ?_
  exact (hk37 _ _ _ _ _ _ h).less (e_sc (List.mem_of_getElem? (i := 1) rfl) (e_sc (List.mem_of_getElem? (i := 2) rfl) (e_sc (List.mem_of_getElem? (i := 0) rfl) e_sn)))
def w_Verifier_findsFault_37 : Nat → Nat → Nat → Nat → Int32 → Int32 → eM → (Int32 → eM → Prop) → (Nat → Nat → Nat → Int32 → eM → Prop) → Prop
  | 0, _, _, _, _, _, _, _, _ => False
  | n + 1, kc, ks, l0, l2, l3, M, Q, k7 => e_ob M l0 10 ∧ e_ob M (gr M l0 4) 8 ∧ ((gi M (gr M l0 4) 6) ≤ l3 → k7 kc ks l0 (l2 + 1) M) ∧ (¬ (gi M (gr M l0 4) 6) ≤ l3 → e_ob M l0 10 ∧ e_ob M (gr M l0 3) 6 ∧ e_ob M l0 10 ∧ e_ob M (gr M l0 4) 8 ∧ e_ai M (gr M (gr M l0 3) 12) ((gi M (gr M l0 4) 5) + l3) ∧ ((gi M (gr M (gr M l0 3) 12) ((gi M (gr M l0 4) 5) + l3).toNatClampNeg) = 0 → w_Verifier_findsFault_96 kc ks l0 l2 l3 M Q k7 (fun kc ks l0 l2 l3 M => w_Verifier_findsFault_37 n kc ks l0 l2 l3 M Q k7)) ∧ (¬ (gi M (gr M (gr M l0 3) 12) ((gi M (gr M l0 4) 5) + l3).toNatClampNeg) = 0 → e_ob M l0 10 ∧ e_ob M (gr M l0 4) 8 ∧ e_ob M l0 10 ∧ w_Verifier_isWrong l0 ((gi M (gr M l0 4) 5) + l3) M (fun (v9 : Int32) (M8 : eM) => (v9 = 0 → w_Verifier_findsFault_96 kc ks l0 l2 l3 M8 Q k7 (fun kc ks l0 l2 l3 M => w_Verifier_findsFault_37 n kc ks l0 l2 l3 M Q k7)) ∧ (¬ v9 = 0 → e_ob M8 l0 10 ∧ ∀ M10 : eM, M10 = e_si M8 l0 0 l2 → e_ob M10 l0 10 ∧ ∀ M11 : eM, M11 = e_si M10 l0 1 l3 → ((1 : Int32) = 0 ∨ (1 : Int32) = 1) ∧ Q (1 : Int32) M11))))
theorem b_Verifier_findsFault_37 {d : Nat} {Q : Int32 → eM → Prop} {k7 : Nat → Nat → Nat → Int32 → eM → Prop} (hd : 6 ≤ d) (n : Nat) (hk7 : ∀ (kc ks : Nat) (l0 : Nat) (l2 : Int32) (M : eM), k7 kc ks l0 l2 M → e_E 96 d kc ks 7 [(0, .ref l0), (2, .int l2)] [] M (e_QI Q)) : ∀ (kc ks : Nat) (l0 : Nat) (l2 : Int32) (l3 : Int32) (M : eM), w_Verifier_findsFault_37 n kc ks l0 l2 l3 M Q k7 → e_E 96 d kc ks 37 [(0, .ref l0), (2, .int l2), (3, .int l3)] [] M (e_QI Q) := by
  induction n with
  | zero => intro kc ks l0 l2 l3 M h; exact False.elim h
  | succ n ih =>
    intro kc ks l0 l2 l3 M h
    have hk37 := ih
    refine r_iload_n (kd96 rfl) rfl rfl ?_
    refine r_aload_n (kd96 rfl) rfl rfl ?_
    obtain ⟨g, h⟩ := h
    refine r_get2 (kd96 rfl) (by decide) rfl g rfl ?_
    obtain ⟨g, h⟩ := h
    refine r_get0 (kd96 rfl) (by decide) rfl g rfl ?_
    refine r_icmp_ge (kd96 rfl) rfl (fun c => ?_) (fun c => ?_)
    · have h := h.1 c
      refine r_iinc (kd96 rfl) rfl (y := 1) (by decide) L96 (by decide) rfl rfl ?_
      refine r_goto (kd96 rfl) ?_
      exact (hk7 _ _ _ _ _ h).less (e_sc (List.mem_of_getElem? (i := 1) rfl) (e_sc (List.mem_of_getElem? (i := 0) rfl) e_sn))
    · have h := h.2 c
      refine r_aload_n (kd96 rfl) rfl rfl ?_
      obtain ⟨g, h⟩ := h
      refine r_get2 (kd96 rfl) (by decide) rfl g rfl ?_
      obtain ⟨g, h⟩ := h
      refine r_get2 (kd96 rfl) (by decide) rfl g rfl ?_
      refine r_aload_n (kd96 rfl) rfl rfl ?_
      obtain ⟨g, h⟩ := h
      refine r_get2 (kd96 rfl) (by decide) rfl g rfl ?_
      obtain ⟨g, h⟩ := h
      refine r_get0 (kd96 rfl) (by decide) rfl g rfl ?_
      refine r_iload_n (kd96 rfl) rfl rfl ?_
      refine r_iadd (kd96 rfl) rfl ?_
      obtain ⟨g, h⟩ := h
      refine r_iaload (kd96 rfl) g rfl ?_
      refine r_if_eq (kd96 rfl) rfl (fun c => ?_) (fun c => ?_)
      · have h := h.1 c
        exact (b_Verifier_findsFault_96 hd hk7 hk37 h).less (e_sc (List.mem_of_getElem? (i := 0) rfl) (e_sc (List.mem_of_getElem? (i := 1) rfl) (e_sc (List.mem_of_getElem? (i := 2) rfl) e_sn)))
      · have h := h.2 c
        refine r_aload_n (kd96 rfl) rfl rfl ?_
        refine r_aload_n (kd96 rfl) rfl rfl ?_
        obtain ⟨g, h⟩ := h
        refine r_get2 (kd96 rfl) (by decide) rfl g rfl ?_
        obtain ⟨g, h⟩ := h
        refine r_get0 (kd96 rfl) (by decide) rfl g rfl ?_
        refine r_iload_n (kd96 rfl) rfl rfl ?_
        refine r_iadd (kd96 rfl) rfl ?_
        obtain ⟨g, h⟩ := h
        refine r_callVI (d' := d - 1) (by omega) (kd96 rfl) (by decide) rfl rfl rfl rfl (Nat.le_of_ble_eq_true rfl) rfl L110 (Nat.le_of_ble_eq_true rfl) (Nat.le_of_ble_eq_true rfl) g (Nat.zero_le _) (Nat.zero_le _) rfl rfl rfl (b_Verifier_isWrong (by omega) h) (fun x1 M1 h => ?_)
        refine r_if_eq (kd96 rfl) rfl (fun c => ?_) (fun c => ?_)
        · have h := h.1 c
          exact (b_Verifier_findsFault_96 hd hk7 hk37 h).less (e_sc (List.mem_of_getElem? (i := 0) rfl) (e_sc (List.mem_of_getElem? (i := 1) rfl) (e_sc (List.mem_of_getElem? (i := 2) rfl) e_sn)))
        · have h := h.2 c
          refine r_aload_n (kd96 rfl) rfl rfl ?_
          refine r_iload_n (kd96 rfl) rfl rfl ?_
          obtain ⟨g, h⟩ := h
          have h := h _ rfl
          refine r_put0 (kd96 rfl) (by decide) rfl g rfl ?_
          refine r_aload_n (kd96 rfl) rfl rfl ?_
          refine r_iload_n (kd96 rfl) rfl rfl ?_
          obtain ⟨g, h⟩ := h
          have h := h _ rfl
          refine r_put0 (kd96 rfl) (by decide) rfl g rfl ?_
          refine r_iconst (kd96 rfl) (y := 1) (by decide) rfl ?_
          exact r_zreturn (kd96 rfl) R96 h.1 h.2
def w_Verifier_findsFault_7 : Nat → Nat → Nat → Nat → Int32 → eM → (Int32 → eM → Prop) → Prop
  | 0, _, _, _, _, _, _ => False
  | n + 1, kc, ks, l0, l2, M, Q => e_ob M l0 10 ∧ e_ob M (gr M l0 3) 6 ∧ ((gi M (gr M l0 3) 9) ≤ l2 → ((0 : Int32) = 0 ∨ (0 : Int32) = 1) ∧ Q (0 : Int32) M) ∧ (¬ (gi M (gr M l0 3) 9) ≤ l2 → e_ob M l0 10 ∧ e_ob M (gr M l0 3) 6 ∧ (e_ar M (gr M (gr M l0 3) 10) 23 l2 ∨ e_ar M (gr M (gr M l0 3) 10) 24 l2) ∧ e_ob M l0 10 ∧ ∀ M3 : eM, M3 = e_sr M l0 4 (gr M (gr M (gr M l0 3) 10) l2.toNatClampNeg) → e_ob M3 l0 10 ∧ ∃ kc5 ks6 : Nat, kc5 ≤ kc ∧ ks6 ≤ ks ∧ w_Verifier_flow kc5 ks6 l0 M3 (fun (M4 : eM) => ∃ n7 : Nat, w_Verifier_findsFault_37 n7 (kc - kc5) (ks - ks6) l0 l2 0 M4 Q (fun kc ks l0 l2 M => w_Verifier_findsFault_7 n kc ks l0 l2 M Q )))
theorem b_Verifier_findsFault_7 {d : Nat} {Q : Int32 → eM → Prop} (hd : 6 ≤ d) (n : Nat) : ∀ (kc ks : Nat) (l0 : Nat) (l2 : Int32) (M : eM), w_Verifier_findsFault_7 n kc ks l0 l2 M Q → e_E 96 d kc ks 7 [(0, .ref l0), (2, .int l2)] [] M (e_QI Q) := by
  induction n with
  | zero => intro kc ks l0 l2 M h; exact False.elim h
  | succ n ih =>
    intro kc ks l0 l2 M h
    have hk7 := ih
    refine r_iload_n (kd96 rfl) rfl rfl ?_
    refine r_aload_n (kd96 rfl) rfl rfl ?_
    obtain ⟨g, h⟩ := h
    refine r_get2 (kd96 rfl) (by decide) rfl g rfl ?_
    obtain ⟨g, h⟩ := h
    refine r_get0 (kd96 rfl) (by decide) rfl g rfl ?_
    refine r_icmp_ge (kd96 rfl) rfl (fun c => ?_) (fun c => ?_)
    · have h := h.1 c
      refine r_iconst (kd96 rfl) (y := 0) (by decide) rfl ?_
      exact r_zreturn (kd96 rfl) R96 h.1 h.2
    · have h := h.2 c
      refine r_aload_n (kd96 rfl) rfl rfl ?_
      refine r_aload_n (kd96 rfl) rfl rfl ?_
      obtain ⟨g, h⟩ := h
      refine r_get2 (kd96 rfl) (by decide) rfl g rfl ?_
      obtain ⟨g, h⟩ := h
      refine r_get2 (kd96 rfl) (by decide) rfl g rfl ?_
      refine r_iload_n (kd96 rfl) rfl rfl ?_
      obtain ⟨g, h⟩ := h
      refine r_aaload (kd96 rfl) g rfl ?_
      obtain ⟨g, h⟩ := h
      have h := h _ rfl
      refine r_put2 (kd96 rfl) (by decide) rfl g rfl ?_
      refine r_aload_n (kd96 rfl) rfl rfl ?_
      obtain ⟨g, h⟩ := h
      obtain ⟨mc, ms, q1, q2, h⟩ := h
      refine r_callVV (d' := d - 1) (by omega) (kd96 rfl) (by decide) rfl rfl rfl rfl (Nat.le_of_ble_eq_true rfl) rfl L97 (Nat.le_of_ble_eq_true rfl) (Nat.le_of_ble_eq_true rfl) g q1 q2 rfl rfl rfl (b_Verifier_flow (by omega) h) (fun M1 h => ?_)
      refine r_iconst (kd96 rfl) (y := 0) (by decide) rfl ?_
      refine r_istore_n (kd96 rfl) L96 (by decide) rfl rfl ?_
      obtain ⟨n, h⟩ := h
      exact (b_Verifier_findsFault_37 hd n hk7 _ _ _ _ _ _ h).less (e_sc (List.mem_of_getElem? (i := 1) rfl) (e_sc (List.mem_of_getElem? (i := 2) rfl) (e_sc (List.mem_of_getElem? (i := 0) rfl) e_sn)))
def w_Verifier_findsFault (kc ks : Nat) (l0 : Nat) (l1 : Nat) (M : eM) (Q : Int32 → eM → Prop) : Prop := e_ob M l0 10 ∧ ∀ M1 : eM, M1 = e_sr M l0 3 l1 → ∃ n2 : Nat, w_Verifier_findsFault_7 n2 kc ks l0 0 M1 Q
theorem b_Verifier_findsFault {d : Nat} {kc ks : Nat} {l0 : Nat} {l1 : Nat} {M : eM} {Q : Int32 → eM → Prop} (hd : 6 ≤ d) (h : w_Verifier_findsFault kc ks l0 l1 M Q) : e_CI 96 d kc ks [.ref l0, .ref l1] M Q := by
  unfold w_Verifier_findsFault at h
  show e_E 96 d kc ks 0 [(0, .ref l0), (1, .ref l1)] [] M (e_QI Q)
  refine r_aload_n (kd96 rfl) rfl rfl ?_
  refine r_aload_n (kd96 rfl) rfl rfl ?_
  obtain ⟨g, h⟩ := h
  have h := h _ rfl
  refine r_put2 (kd96 rfl) (by decide) rfl g rfl ?_
  refine r_iconst (kd96 rfl) (y := 0) (by decide) rfl ?_
  refine r_istore_n (kd96 rfl) L96 (by decide) rfl rfl ?_
  obtain ⟨n, h⟩ := h
  exact (b_Verifier_findsFault_7 hd n _ _ _ _ _ h).less (e_sc (List.mem_of_getElem? (i := 1) rfl) (e_sc (List.mem_of_getElem? (i := 0) rfl) e_sn))
/-- TierMill.<init>()V -/
theorem kd118 {pc : Nat} {q : eI} (h : e_d118.lookup pc = some q) : e_dec 118 pc = some q := h
theorem L118 : (e_m 118).2.2.1 = 1 := rfl
theorem R118 : (e_m 118).2.2.2.1 = none := rfl
def w_Mill_init (kc ks : Nat) (l0 : Nat) (M : eM) (Q : eM → Prop) : Prop := e_c0 ≤ l0 ∧ 1 ≤ kc ∧ 3 ≤ ks ∧ ∀ M1 : eM, M1 = e_new M 7 0 → e_c0 ≤ M.1 ∧ w_Reader_init M.1 M1 (fun (M2 : eM) => e_ob M2 l0 11 ∧ ∀ M3 : eM, M3 = e_sr M2 l0 0 M.1 → 1 ≤ (kc - 1) ∧ 3 ≤ (ks - 3) ∧ ∀ M4 : eM, M4 = e_new M3 0 0 → e_c0 ≤ M3.1 ∧ w_Decoder_init M3.1 M4 (fun (M5 : eM) => e_ob M5 l0 11 ∧ ∀ M6 : eM, M6 = e_sr M5 l0 1 M3.1 → 1 ≤ (kc - 1 - 1) ∧ 9 ≤ (ks - 3 - 3) ∧ ∀ M7 : eM, M7 = e_new M6 10 0 → e_c0 ≤ M6.1 ∧ ∃ kc9 ks10 : Nat, kc9 ≤ (kc - 1 - 1 - 1) ∧ ks10 ≤ (ks - 3 - 3 - 9) ∧ w_Verifier_init kc9 ks10 M6.1 M7 (fun (M8 : eM) => e_ob M8 l0 11 ∧ ∀ M11 : eM, M11 = e_sr M8 l0 2 M6.1 → 1 ≤ (kc - 1 - 1 - 1 - kc9) ∧ 16 ≤ (ks - 3 - 3 - 9 - ks10) ∧ ∀ M12 : eM, M12 = e_new M11 4 0 → e_c0 ≤ M11.1 ∧ ∃ kc14 ks15 : Nat, kc14 ≤ (kc - 1 - 1 - 1 - kc9 - 1) ∧ ks15 ≤ (ks - 3 - 3 - 9 - ks10 - 16) ∧ w_Machine_init kc14 ks15 M11.1 M12 (fun (M13 : eM) => e_ob M13 l0 11 ∧ ∀ M16 : eM, M16 = e_sr M13 l0 3 M11.1 → 1 ≤ (kc - 1 - 1 - 1 - kc9 - 1 - kc14) ∧ 18 ≤ (ks - 3 - 3 - 9 - ks10 - 16 - ks15) ∧ ∀ M17 : eM, M17 = e_new M16 6 0 → e_c0 ≤ M16.1 ∧ ∃ kc19 ks20 : Nat, kc19 ≤ (kc - 1 - 1 - 1 - kc9 - 1 - kc14 - 1) ∧ ks20 ≤ (ks - 3 - 3 - 9 - ks10 - 16 - ks15 - 18) ∧ w_Program_init kc19 ks20 M16.1 M17 (fun (M18 : eM) => e_ob M18 l0 11 ∧ ∀ M21 : eM, M21 = e_sr M18 l0 5 M16.1 → 1 ≤ (kc - 1 - 1 - 1 - kc9 - 1 - kc14 - 1 - kc19) ∧ 18 ≤ (ks - 3 - 3 - 9 - ks10 - 16 - ks15 - 18 - ks20) ∧ ∀ M22 : eM, M22 = e_new M21 6 0 → e_c0 ≤ M21.1 ∧ ∃ kc24 ks25 : Nat, kc24 ≤ (kc - 1 - 1 - 1 - kc9 - 1 - kc14 - 1 - kc19 - 1) ∧ ks25 ≤ (ks - 3 - 3 - 9 - ks10 - 16 - ks15 - 18 - ks20 - 18) ∧ w_Program_init kc24 ks25 M21.1 M22 (fun (M23 : eM) => e_ob M23 l0 11 ∧ ∀ M26 : eM, M26 = e_sr M23 l0 6 M21.1 → e_ob M26 l0 11 ∧ ∀ M27 : eM, M27 = e_si M26 l0 10 500 → Q M27))))))
theorem b_Mill_init {d : Nat} {kc ks : Nat} {l0 : Nat} {M : eM} {Q : eM → Prop} (hd : 3 ≤ d) (h : w_Mill_init kc ks l0 M Q) : e_CV 118 d kc ks [.ref l0] M Q := by
  unfold w_Mill_init at h
  show e_E 118 d kc ks 0 [(0, .ref l0)] [] M (e_QV Q)
  refine r_aload_n (kd118 rfl) rfl rfl ?_
  obtain ⟨g, h⟩ := h
  refine r_objInit (kd118 rfl) g (Nat.le_of_ble_eq_true rfl) rfl ?_
  refine r_aload_n (kd118 rfl) rfl rfl ?_
  obtain ⟨g1, g2, h⟩ := h
  have h := h _ rfl
  refine r_new (kd118 rfl) (by decide) (n := 3) rfl g1 g2 rfl ?_
  refine r_dup (kd118 rfl) rfl rfl ?_
  obtain ⟨g, h⟩ := h
  refine r_callIV (d' := d - 1) (by omega) (kd118 rfl) (by decide) rfl rfl rfl rfl (Nat.le_of_ble_eq_true rfl) rfl L71 (Nat.le_of_ble_eq_true rfl) (Nat.le_of_ble_eq_true rfl) g (Nat.zero_le _) (Nat.zero_le _) rfl rfl rfl (b_Reader_init (by omega) h) (fun M1 h => ?_)
  obtain ⟨g, h⟩ := h
  have h := h _ rfl
  refine r_put2 (kd118 rfl) (by decide) rfl g rfl ?_
  refine r_aload_n (kd118 rfl) rfl rfl ?_
  obtain ⟨g1, g2, h⟩ := h
  have h := h _ rfl
  refine r_new (kd118 rfl) (by decide) (n := 3) rfl g1 g2 rfl ?_
  refine r_dup (kd118 rfl) rfl rfl ?_
  obtain ⟨g, h⟩ := h
  refine r_callIV (d' := d - 1) (by omega) (kd118 rfl) (by decide) rfl rfl rfl rfl (Nat.le_of_ble_eq_true rfl) rfl L0 (Nat.le_of_ble_eq_true rfl) (Nat.le_of_ble_eq_true rfl) g (Nat.zero_le _) (Nat.zero_le _) rfl rfl rfl (b_Decoder_init (by omega) h) (fun M1 h => ?_)
  obtain ⟨g, h⟩ := h
  have h := h _ rfl
  refine r_put2 (kd118 rfl) (by decide) rfl g rfl ?_
  refine r_aload_n (kd118 rfl) rfl rfl ?_
  obtain ⟨g1, g2, h⟩ := h
  have h := h _ rfl
  refine r_new (kd118 rfl) (by decide) (n := 9) rfl g1 g2 rfl ?_
  refine r_dup (kd118 rfl) rfl rfl ?_
  obtain ⟨g, h⟩ := h
  obtain ⟨mc, ms, q1, q2, h⟩ := h
  refine r_callIV (d' := d - 1) (by omega) (kd118 rfl) (by decide) rfl rfl rfl rfl (Nat.le_of_ble_eq_true rfl) rfl L95 (Nat.le_of_ble_eq_true rfl) (Nat.le_of_ble_eq_true rfl) g q1 q2 rfl rfl rfl (b_Verifier_init (by omega) h) (fun M1 h => ?_)
  obtain ⟨g, h⟩ := h
  have h := h _ rfl
  refine r_put2 (kd118 rfl) (by decide) rfl g rfl ?_
  refine r_aload_n (kd118 rfl) rfl rfl ?_
  obtain ⟨g1, g2, h⟩ := h
  have h := h _ rfl
  refine r_new (kd118 rfl) (by decide) (n := 16) rfl g1 g2 rfl ?_
  refine r_dup (kd118 rfl) rfl rfl ?_
  obtain ⟨g, h⟩ := h
  obtain ⟨mc, ms, q1, q2, h⟩ := h
  refine r_callIV (d' := d - 1) (by omega) (kd118 rfl) (by decide) rfl rfl rfl rfl (Nat.le_of_ble_eq_true rfl) rfl L35 (Nat.le_of_ble_eq_true rfl) (Nat.le_of_ble_eq_true rfl) g q1 q2 rfl rfl rfl (b_Machine_init (by omega) h) (fun M1 h => ?_)
  obtain ⟨g, h⟩ := h
  have h := h _ rfl
  refine r_put2 (kd118 rfl) (by decide) rfl g rfl ?_
  refine r_aload_n (kd118 rfl) rfl rfl ?_
  obtain ⟨g1, g2, h⟩ := h
  have h := h _ rfl
  refine r_new (kd118 rfl) (by decide) (n := 18) rfl g1 g2 rfl ?_
  refine r_dup (kd118 rfl) rfl rfl ?_
  obtain ⟨g, h⟩ := h
  obtain ⟨mc, ms, q1, q2, h⟩ := h
  refine r_callIV (d' := d - 1) (by omega) (kd118 rfl) (by decide) rfl rfl rfl rfl (Nat.le_of_ble_eq_true rfl) rfl L65 (Nat.le_of_ble_eq_true rfl) (Nat.le_of_ble_eq_true rfl) g q1 q2 rfl rfl rfl (b_Program_init (by omega) h) (fun M1 h => ?_)
  obtain ⟨g, h⟩ := h
  have h := h _ rfl
  refine r_put2 (kd118 rfl) (by decide) rfl g rfl ?_
  refine r_aload_n (kd118 rfl) rfl rfl ?_
  obtain ⟨g1, g2, h⟩ := h
  have h := h _ rfl
  refine r_new (kd118 rfl) (by decide) (n := 18) rfl g1 g2 rfl ?_
  refine r_dup (kd118 rfl) rfl rfl ?_
  obtain ⟨g, h⟩ := h
  obtain ⟨mc, ms, q1, q2, h⟩ := h
  refine r_callIV (d' := d - 1) (by omega) (kd118 rfl) (by decide) rfl rfl rfl rfl (Nat.le_of_ble_eq_true rfl) rfl L65 (Nat.le_of_ble_eq_true rfl) (Nat.le_of_ble_eq_true rfl) g q1 q2 rfl rfl rfl (b_Program_init (by omega) h) (fun M1 h => ?_)
  obtain ⟨g, h⟩ := h
  have h := h _ rfl
  refine r_put2 (kd118 rfl) (by decide) rfl g rfl ?_
  refine r_aload_n (kd118 rfl) rfl rfl ?_
  refine r_sipush (kd118 rfl) (y := 500) (by decide) rfl ?_
  obtain ⟨g, h⟩ := h
  have h := h _ rfl
  refine r_put0 (kd118 rfl) (by decide) rfl g rfl ?_
  exact r_return (kd118 rfl) R118 h
/-- TierMill.put(JI)Z -/
theorem kd119 {pc : Nat} {q : eI} (h : e_d119.lookup pc = some q) : e_dec 119 pc = some q := h
theorem L119 : (e_m 119).2.2.1 = 5 := rfl
theorem R119 : (e_m 119).2.2.2.1 = (some .boolean) := rfl
def w_Mill_put_26 (M : eM) (Q : Int32 → eM → Prop) : Prop := ((0 : Int32) = 0 ∨ (0 : Int32) = 1) ∧ Q (0 : Int32) M
theorem b_Mill_put_26 {d : Nat} {M : eM} {Q : Int32 → eM → Prop} (hd : 0 ≤ d) (h : w_Mill_put_26 M Q ) : e_E 119 d 0 0 26 [] [] M (e_QI Q) := by
  unfold w_Mill_put_26 at h
  refine r_iconst (kd119 rfl) (y := 0) (by decide) rfl ?_
  exact r_zreturn (kd119 rfl) R119 h.1 h.2
def w_Mill_put_33 : Nat → Nat → Int64 → Int32 → eM → (Int32 → eM → Prop) → Prop
  | 0, _, _, _, _, _ => False
  | n + 1, l0, l1, l4, M, Q => (l4 < 0 → ((1 : Int32) = 0 ∨ (1 : Int32) = 1) ∧ Q (1 : Int32) M) ∧ (¬ l4 < 0 → e_ob M l0 11 ∧ e_ob M (gr M l0 6) 6 ∧ e_ob M l0 11 ∧ e_ob M (gr M l0 6) 6 ∧ e_ar M (gr M (gr M l0 6) 0) 20 (gi M (gr M l0 6) 1) ∧ ∀ M2 : eM, M2 = e_si M (gr M (gr M l0 6) 0) (gi M (gr M l0 6) 1).toNatClampNeg ((((l1.toUInt64 >>> ((8 * l4).toInt64.toUInt64 &&& Int64.toUInt64 63)).toInt64).toInt32) &&& 255) → e_ob M2 l0 11 ∧ e_ob M2 (gr M2 l0 6) 6 ∧ e_ob M2 (gr M2 l0 6) 6 ∧ ∀ M3 : eM, M3 = e_si M2 (gr M2 l0 6) 1 ((gi M2 (gr M2 l0 6) 1) + 1) → (fun l0 l1 l4 M => w_Mill_put_33 n l0 l1 l4 M Q ) l0 l1 (l4 + (-1)) M3)
theorem b_Mill_put_33 {d : Nat} {Q : Int32 → eM → Prop} (hd : 0 ≤ d) (n : Nat) : ∀ (l0 : Nat) (l1 : Int64) (l4 : Int32) (M : eM), w_Mill_put_33 n l0 l1 l4 M Q → e_E 119 d 0 0 33 [(0, .ref l0), (1, .long l1), (4, .int l4)] [] M (e_QI Q) := by
  induction n with
  | zero => intro l0 l1 l4 M h; exact False.elim h
  | succ n ih =>
    intro l0 l1 l4 M h
    have hk33 := ih
    refine r_iload (kd119 rfl) rfl rfl ?_
    refine r_if_lt (kd119 rfl) rfl (fun c => ?_) (fun c => ?_)
    · have h := h.1 c
      refine r_iconst (kd119 rfl) (y := 1) (by decide) rfl ?_
      exact r_zreturn (kd119 rfl) R119 h.1 h.2
    · have h := h.2 c
      refine r_aload_n (kd119 rfl) rfl rfl ?_
      obtain ⟨g, h⟩ := h
      refine r_get2 (kd119 rfl) (by decide) rfl g rfl ?_
      obtain ⟨g, h⟩ := h
      refine r_get2 (kd119 rfl) (by decide) rfl g rfl ?_
      refine r_aload_n (kd119 rfl) rfl rfl ?_
      obtain ⟨g, h⟩ := h
      refine r_get2 (kd119 rfl) (by decide) rfl g rfl ?_
      obtain ⟨g, h⟩ := h
      refine r_get0 (kd119 rfl) (by decide) rfl g rfl ?_
      refine r_lload_n (kd119 rfl) rfl rfl ?_
      refine r_bipush (kd119 rfl) (y := 8) (by decide) rfl ?_
      refine r_iload (kd119 rfl) rfl rfl ?_
      refine r_imul (kd119 rfl) rfl ?_
      refine r_lushr (kd119 rfl) rfl ?_
      refine r_l2i (kd119 rfl) rfl ?_
      refine r_sipush (kd119 rfl) (y := 255) (by decide) rfl ?_
      refine r_iand (kd119 rfl) rfl ?_
      obtain ⟨g, h⟩ := h
      have h := h _ rfl
      refine r_iastore (kd119 rfl) g rfl ?_
      refine r_aload_n (kd119 rfl) rfl rfl ?_
      obtain ⟨g, h⟩ := h
      refine r_get2 (kd119 rfl) (by decide) rfl g rfl ?_
      refine r_dup (kd119 rfl) rfl rfl ?_
      obtain ⟨g, h⟩ := h
      refine r_get0 (kd119 rfl) (by decide) rfl g rfl ?_
      refine r_iconst (kd119 rfl) (y := 1) (by decide) rfl ?_
      refine r_iadd (kd119 rfl) rfl ?_
      obtain ⟨g, h⟩ := h
      have h := h _ rfl
      refine r_put0 (kd119 rfl) (by decide) rfl g rfl ?_
      refine r_iinc (kd119 rfl) rfl (y := (-1)) (by decide) L119 (by decide) rfl rfl ?_
      refine r_goto (kd119 rfl) ?_
      exact (hk33 _ _ _ _ h).less (e_sc (List.mem_of_getElem? (i := 1) rfl) (e_sc (List.mem_of_getElem? (i := 2) rfl) (e_sc (List.mem_of_getElem? (i := 0) rfl) e_sn)))
def w_Mill_put (l0 : Nat) (l1 : Int64) (l3 : Int32) (M : eM) (Q : Int32 → eM → Prop) : Prop := (l3 < 1 → w_Mill_put_26 M Q) ∧ (¬ l3 < 1 → (8 < l3 → w_Mill_put_26 M Q) ∧ (¬ 8 < l3 → e_ob M l0 11 ∧ e_ob M (gr M l0 6) 6 ∧ (((gi M (gr M l0 6) 1) + l3) ≤ 1500 → ∃ n1 : Nat, w_Mill_put_33 n1 l0 l1 (l3 - 1) M Q) ∧ (¬ ((gi M (gr M l0 6) 1) + l3) ≤ 1500 → w_Mill_put_26 M Q)))
theorem b_Mill_put {d : Nat} {l0 : Nat} {l1 : Int64} {l3 : Int32} {M : eM} {Q : Int32 → eM → Prop} (hd : 0 ≤ d) (h : w_Mill_put l0 l1 l3 M Q) : e_CI 119 d 0 0 [.ref l0, .long l1, .int l3] M Q := by
  unfold w_Mill_put at h
  show e_E 119 d 0 0 0 [(0, .ref l0), (1, .long l1), (3, .int l3)] [] M (e_QI Q)
  refine r_iload_n (kd119 rfl) rfl rfl ?_
  refine r_iconst (kd119 rfl) (y := 1) (by decide) rfl ?_
  refine r_icmp_lt (kd119 rfl) rfl (fun c => ?_) (fun c => ?_)
  · have h := h.1 c
    exact (b_Mill_put_26 hd h).less e_sn
  · have h := h.2 c
    refine r_iload_n (kd119 rfl) rfl rfl ?_
    refine r_bipush (kd119 rfl) (y := 8) (by decide) rfl ?_
    refine r_icmp_gt (kd119 rfl) rfl (fun c => ?_) (fun c => ?_)
    · have h := h.1 c
      exact (b_Mill_put_26 hd h).less e_sn
    · have h := h.2 c
      refine r_aload_n (kd119 rfl) rfl rfl ?_
      obtain ⟨g, h⟩ := h
      refine r_get2 (kd119 rfl) (by decide) rfl g rfl ?_
      obtain ⟨g, h⟩ := h
      refine r_get0 (kd119 rfl) (by decide) rfl g rfl ?_
      refine r_iload_n (kd119 rfl) rfl rfl ?_
      refine r_iadd (kd119 rfl) rfl ?_
      refine r_sipush (kd119 rfl) (y := 1500) (by decide) rfl ?_
      refine r_icmp_le (kd119 rfl) rfl (fun c => ?_) (fun c => ?_)
      · have h := h.1 c
        refine r_iload_n (kd119 rfl) rfl rfl ?_
        refine r_iconst (kd119 rfl) (y := 1) (by decide) rfl ?_
        refine r_isub (kd119 rfl) rfl ?_
        refine r_istore (kd119 rfl) L119 (by decide) rfl rfl ?_
        obtain ⟨n, h⟩ := h
        exact (b_Mill_put_33 hd n _ _ _ _ h).less (e_sc (List.mem_of_getElem? (i := 1) rfl) (e_sc (List.mem_of_getElem? (i := 2) rfl) (e_sc (List.mem_of_getElem? (i := 0) rfl) e_sn)))
      · have h := h.2 c
        exact (b_Mill_put_26 hd h).less e_sn
/-- TierMill.keepFault(III)V -/
theorem kd121 {pc : Nat} {q : eI} (h : e_d121.lookup pc = some q) : e_dec 121 pc = some q := h
theorem L121 : (e_m 121).2.2.1 = 4 := rfl
theorem R121 : (e_m 121).2.2.2.1 = none := rfl
def w_Mill_keepFault (l0 : Nat) (l1 : Int32) (l2 : Int32) (l3 : Int32) (M : eM) (Q : eM → Prop) : Prop := e_ob M l0 11 ∧ ∀ M1 : eM, M1 = e_si M l0 7 l1 → e_ob M1 l0 11 ∧ ∀ M2 : eM, M2 = e_si M1 l0 8 l2 → e_ob M2 l0 11 ∧ ∀ M3 : eM, M3 = e_si M2 l0 9 l3 → Q M3
theorem b_Mill_keepFault {d : Nat} {l0 : Nat} {l1 : Int32} {l2 : Int32} {l3 : Int32} {M : eM} {Q : eM → Prop} (hd : 0 ≤ d) (h : w_Mill_keepFault l0 l1 l2 l3 M Q) : e_CV 121 d 0 0 [.ref l0, .int l1, .int l2, .int l3] M Q := by
  unfold w_Mill_keepFault at h
  show e_E 121 d 0 0 0 [(0, .ref l0), (1, .int l1), (2, .int l2), (3, .int l3)] [] M (e_QV Q)
  refine r_aload_n (kd121 rfl) rfl rfl ?_
  refine r_iload_n (kd121 rfl) rfl rfl ?_
  obtain ⟨g, h⟩ := h
  have h := h _ rfl
  refine r_put0 (kd121 rfl) (by decide) rfl g rfl ?_
  refine r_aload_n (kd121 rfl) rfl rfl ?_
  refine r_iload_n (kd121 rfl) rfl rfl ?_
  obtain ⟨g, h⟩ := h
  have h := h _ rfl
  refine r_put0 (kd121 rfl) (by decide) rfl g rfl ?_
  refine r_aload_n (kd121 rfl) rfl rfl ?_
  refine r_iload_n (kd121 rfl) rfl rfl ?_
  obtain ⟨g, h⟩ := h
  have h := h _ rfl
  refine r_put0 (kd121 rfl) (by decide) rfl g rfl ?_
  exact r_return (kd121 rfl) R121 h
/-- TierMill.load()I -/
theorem kd120 {pc : Nat} {q : eI} (h : e_d120.lookup pc = some q) : e_dec 120 pc = some q := h
theorem L120 : (e_m 120).2.2.1 = 3 := rfl
theorem R120 : (e_m 120).2.2.2.1 = (some .int) := rfl
def w_Mill_load_106 (kc ks : Nat) (l0 : Nat) (M : eM) (Q : Int32 → eM → Prop) (X : Nat → eM → Prop) : Prop := e_ob M l0 11 ∧ ((gi M l0 7) = 0 → e_ob M l0 11 ∧ e_ob M l0 11 ∧ e_ob M l0 11 ∧ ∀ M15 : eM, M15 = e_sr M l0 5 (gr M l0 6) → e_ob M15 l0 11 ∧ ∀ M16 : eM, M16 = e_sr M15 l0 6 (gr M l0 5) → e_ob M16 l0 11 ∧ e_ob M16 (gr M16 l0 6) 6 ∧ ∀ M17 : eM, M17 = e_si M16 (gr M16 l0 6) 1 0 → e_ob M17 l0 11 ∧ ((1 : Int32) = 0 ∨ (1 : Int32) = 1) ∧ ∀ M18 : eM, M18 = e_si M17 l0 4 (1 : Int32) → e_ob M18 l0 11 ∧ e_ob M18 (gr M18 l0 3) 4 ∧ w_Machine_forget (gr M18 l0 3) M18 (fun (M19 : eM) => e_ob M19 l0 11 ∧ e_ob M19 (gr M19 l0 5) 6 ∧ Q (gi M19 (gr M19 l0 5) 9) M19)) ∧ (¬ (gi M l0 7) = 0 → e_ob M l0 11 ∧ e_ob M (gr M l0 6) 6 ∧ ∀ M20 : eM, M20 = e_si M (gr M l0 6) 1 0 → 1 ≤ kc ∧ 6 ≤ ks ∧ X 91 M20)
theorem b_Mill_load_106 {d : Nat} {kc ks : Nat} {l0 : Nat} {M : eM} {Q : Int32 → eM → Prop} {X : Nat → eM → Prop} (hd : 7 ≤ d) (h : w_Mill_load_106 kc ks l0 M Q X ) : e_E 120 d kc ks 106 [(0, .ref l0)] [] M (e_QX Q X) := by
  unfold w_Mill_load_106 at h
  refine r_aload_n (kd120 rfl) rfl rfl ?_
  obtain ⟨g, h⟩ := h
  refine r_get0 (kd120 rfl) (by decide) rfl g rfl ?_
  refine r_if_eq (kd120 rfl) rfl (fun c => ?_) (fun c => ?_)
  · have h := h.1 c
    refine r_aload_n (kd120 rfl) rfl rfl ?_
    obtain ⟨g, h⟩ := h
    refine r_get2 (kd120 rfl) (by decide) rfl g rfl ?_
    refine r_astore_n (kd120 rfl) L120 (by decide) rfl rfl ?_
    refine r_aload_n (kd120 rfl) rfl rfl ?_
    refine r_aload_n (kd120 rfl) rfl rfl ?_
    obtain ⟨g, h⟩ := h
    refine r_get2 (kd120 rfl) (by decide) rfl g rfl ?_
    obtain ⟨g, h⟩ := h
    have h := h _ rfl
    refine r_put2 (kd120 rfl) (by decide) rfl g rfl ?_
    refine r_aload_n (kd120 rfl) rfl rfl ?_
    refine r_aload_n (kd120 rfl) rfl rfl ?_
    obtain ⟨g, h⟩ := h
    have h := h _ rfl
    refine r_put2 (kd120 rfl) (by decide) rfl g rfl ?_
    refine r_aload_n (kd120 rfl) rfl rfl ?_
    obtain ⟨g, h⟩ := h
    refine r_get2 (kd120 rfl) (by decide) rfl g rfl ?_
    refine r_iconst (kd120 rfl) (y := 0) (by decide) rfl ?_
    obtain ⟨g, h⟩ := h
    have h := h _ rfl
    refine r_put0 (kd120 rfl) (by decide) rfl g rfl ?_
    refine r_aload_n (kd120 rfl) rfl rfl ?_
    refine r_iconst (kd120 rfl) (y := 1) (by decide) rfl ?_
    obtain ⟨g, h⟩ := h
    obtain ⟨gb, h⟩ := h
    have h := h _ rfl
    refine r_put3 (kd120 rfl) (by decide) rfl g gb rfl ?_
    refine r_aload_n (kd120 rfl) rfl rfl ?_
    obtain ⟨g, h⟩ := h
    refine r_get2 (kd120 rfl) (by decide) rfl g rfl ?_
    obtain ⟨g, h⟩ := h
    refine r_callVV (d' := d - 1) (by omega) (kd120 rfl) (by decide) rfl rfl rfl rfl (Nat.le_of_ble_eq_true rfl) rfl L37 (Nat.le_of_ble_eq_true rfl) (Nat.le_of_ble_eq_true rfl) g (Nat.zero_le _) (Nat.zero_le _) rfl rfl rfl (b_Machine_forget (by omega) h) (fun M1 h => ?_)
    refine r_aload_n (kd120 rfl) rfl rfl ?_
    obtain ⟨g, h⟩ := h
    refine r_get2 (kd120 rfl) (by decide) rfl g rfl ?_
    obtain ⟨g, h⟩ := h
    refine r_get0 (kd120 rfl) (by decide) rfl g rfl ?_
    exact r_ireturnX (kd120 rfl) R120 h
  · have h := h.2 c
    refine r_aload_n (kd120 rfl) rfl rfl ?_
    obtain ⟨g, h⟩ := h
    refine r_get2 (kd120 rfl) (by decide) rfl g rfl ?_
    refine r_iconst (kd120 rfl) (y := 0) (by decide) rfl ?_
    obtain ⟨g, h⟩ := h
    have h := h _ rfl
    refine r_put0 (kd120 rfl) (by decide) rfl g rfl ?_
    exact r_throw (kd120 rfl) (by decide) (by decide) h.1 h.2.1 (Or.inr ⟨_, rfl, h.2.2⟩)
def w_Mill_load (kc ks : Nat) (l0 : Nat) (M : eM) (Q : Int32 → eM → Prop) (X : Nat → eM → Prop) : Prop := e_ob M l0 11 ∧ e_ob M l0 11 ∧ e_ob M (gr M l0 0) 7 ∧ w_Reader_firstWrong (gr M l0 0) (gr M l0 6) M (fun (v2 : Int32) (M1 : eM) => (v2 = (-1) → e_ob M1 l0 11 ∧ e_ob M1 l0 11 ∧ e_ob M1 (gr M1 l0 1) 0 ∧ ∃ kc4 ks5 : Nat, kc4 ≤ kc ∧ ks5 ≤ ks ∧ w_Decoder_findsFault kc4 ks5 (gr M1 l0 1) (gr M1 l0 6) M1 (fun (v6 : Int32) (M3 : eM) => (v6 = 0 → e_ob M3 l0 11 ∧ e_ob M3 l0 11 ∧ e_ob M3 (gr M3 l0 2) 10 ∧ ∃ kc8 ks9 : Nat, kc8 ≤ (kc - kc4) ∧ ks9 ≤ (ks - ks5) ∧ w_Verifier_findsFault kc8 ks9 (gr M3 l0 2) (gr M3 l0 6) M3 (fun (v10 : Int32) (M7 : eM) => (v10 = 0 → e_ob M7 l0 11 ∧ w_Mill_keepFault l0 0 0 0 M7 (fun (M11 : eM) => w_Mill_load_106 (kc - kc4 - kc8) (ks - ks5 - ks9) l0 M11 Q X)) ∧ (¬ v10 = 0 → e_ob M7 l0 11 ∧ e_ob M7 (gr M7 l0 2) 10 ∧ e_ob M7 l0 11 ∧ e_ob M7 (gr M7 l0 2) 10 ∧ e_ob M7 l0 11 ∧ w_Mill_keepFault l0 3 (gi M7 (gr M7 l0 2) 1) (gi M7 (gr M7 l0 2) 0) M7 (fun (M12 : eM) => w_Mill_load_106 (kc - kc4 - kc8) (ks - ks5 - ks9) l0 M12 Q X)))) ∧ (¬ v6 = 0 → e_ob M3 l0 11 ∧ e_ob M3 (gr M3 l0 1) 0 ∧ e_ob M3 l0 11 ∧ e_ob M3 (gr M3 l0 1) 0 ∧ e_ob M3 l0 11 ∧ w_Mill_keepFault l0 2 (gi M3 (gr M3 l0 1) 1) (gi M3 (gr M3 l0 1) 0) M3 (fun (M13 : eM) => w_Mill_load_106 (kc - kc4) (ks - ks5) l0 M13 Q X)))) ∧ (¬ v2 = (-1) → e_ob M1 l0 11 ∧ w_Mill_keepFault l0 1 v2 0 M1 (fun (M14 : eM) => w_Mill_load_106 kc ks l0 M14 Q X)))
theorem b_Mill_load {d : Nat} {kc ks : Nat} {l0 : Nat} {M : eM} {Q : Int32 → eM → Prop} {X : Nat → eM → Prop} (hd : 7 ≤ d) (h : w_Mill_load kc ks l0 M Q X) : e_C 120 d kc ks [.ref l0] M (e_QX Q X) := by
  unfold w_Mill_load at h
  show e_E 120 d kc ks 0 [(0, .ref l0)] [] M (e_QX Q X)
  refine r_aload_n (kd120 rfl) rfl rfl ?_
  obtain ⟨g, h⟩ := h
  refine r_get2 (kd120 rfl) (by decide) rfl g rfl ?_
  refine r_aload_n (kd120 rfl) rfl rfl ?_
  obtain ⟨g, h⟩ := h
  refine r_get2 (kd120 rfl) (by decide) rfl g rfl ?_
  obtain ⟨g, h⟩ := h
  refine r_callVI (d' := d - 1) (by omega) (kd120 rfl) (by decide) rfl rfl rfl rfl (Nat.le_of_ble_eq_true rfl) rfl L72 (Nat.le_of_ble_eq_true rfl) (Nat.le_of_ble_eq_true rfl) g (Nat.zero_le _) (Nat.zero_le _) rfl rfl rfl (b_Reader_firstWrong (by omega) h) (fun x1 M1 h => ?_)
  refine r_istore_n (kd120 rfl) L120 (by decide) rfl rfl ?_
  refine r_iload_n (kd120 rfl) rfl rfl ?_
  refine r_iconst (kd120 rfl) (y := (-1)) (by decide) rfl ?_
  refine r_icmp_eq (kd120 rfl) rfl (fun c => ?_) (fun c => ?_)
  · have h := h.1 c
    refine r_aload_n (kd120 rfl) rfl rfl ?_
    obtain ⟨g, h⟩ := h
    refine r_get2 (kd120 rfl) (by decide) rfl g rfl ?_
    refine r_aload_n (kd120 rfl) rfl rfl ?_
    obtain ⟨g, h⟩ := h
    refine r_get2 (kd120 rfl) (by decide) rfl g rfl ?_
    obtain ⟨g, h⟩ := h
    obtain ⟨mc, ms, q1, q2, h⟩ := h
    refine r_callVI (d' := d - 1) (by omega) (kd120 rfl) (by decide) rfl rfl rfl rfl (Nat.le_of_ble_eq_true rfl) rfl L1 (Nat.le_of_ble_eq_true rfl) (Nat.le_of_ble_eq_true rfl) g q1 q2 rfl rfl rfl (b_Decoder_findsFault (by omega) h) (fun x1 M1 h => ?_)
    refine r_if_eq (kd120 rfl) rfl (fun c => ?_) (fun c => ?_)
    · have h := h.1 c
      refine r_aload_n (kd120 rfl) rfl rfl ?_
      obtain ⟨g, h⟩ := h
      refine r_get2 (kd120 rfl) (by decide) rfl g rfl ?_
      refine r_aload_n (kd120 rfl) rfl rfl ?_
      obtain ⟨g, h⟩ := h
      refine r_get2 (kd120 rfl) (by decide) rfl g rfl ?_
      obtain ⟨g, h⟩ := h
      obtain ⟨mc, ms, q1, q2, h⟩ := h
      refine r_callVI (d' := d - 1) (by omega) (kd120 rfl) (by decide) rfl rfl rfl rfl (Nat.le_of_ble_eq_true rfl) rfl L96 (Nat.le_of_ble_eq_true rfl) (Nat.le_of_ble_eq_true rfl) g q1 q2 rfl rfl rfl (b_Verifier_findsFault (by omega) h) (fun x1 M1 h => ?_)
      refine r_if_eq (kd120 rfl) rfl (fun c => ?_) (fun c => ?_)
      · have h := h.1 c
        refine r_aload_n (kd120 rfl) rfl rfl ?_
        refine r_iconst (kd120 rfl) (y := 0) (by decide) rfl ?_
        refine r_iconst (kd120 rfl) (y := 0) (by decide) rfl ?_
        refine r_iconst (kd120 rfl) (y := 0) (by decide) rfl ?_
        obtain ⟨g, h⟩ := h
        refine r_callVV (d' := d - 1) (by omega) (kd120 rfl) (by decide) rfl rfl rfl rfl (Nat.le_of_ble_eq_true rfl) rfl L121 (Nat.le_of_ble_eq_true rfl) (Nat.le_of_ble_eq_true rfl) g (Nat.zero_le _) (Nat.zero_le _) rfl rfl rfl (b_Mill_keepFault (by omega) h) (fun M1 h => ?_)
        exact (b_Mill_load_106 hd h).less (e_sc (List.mem_of_getElem? (i := 1) rfl) e_sn)
      · have h := h.2 c
        refine r_aload_n (kd120 rfl) rfl rfl ?_
        refine r_iconst (kd120 rfl) (y := 3) (by decide) rfl ?_
        refine r_aload_n (kd120 rfl) rfl rfl ?_
        obtain ⟨g, h⟩ := h
        refine r_get2 (kd120 rfl) (by decide) rfl g rfl ?_
        obtain ⟨g, h⟩ := h
        refine r_get0 (kd120 rfl) (by decide) rfl g rfl ?_
        refine r_aload_n (kd120 rfl) rfl rfl ?_
        obtain ⟨g, h⟩ := h
        refine r_get2 (kd120 rfl) (by decide) rfl g rfl ?_
        obtain ⟨g, h⟩ := h
        refine r_get0 (kd120 rfl) (by decide) rfl g rfl ?_
        obtain ⟨g, h⟩ := h
        refine r_callVV (d' := d - 1) (by omega) (kd120 rfl) (by decide) rfl rfl rfl rfl (Nat.le_of_ble_eq_true rfl) rfl L121 (Nat.le_of_ble_eq_true rfl) (Nat.le_of_ble_eq_true rfl) g (Nat.zero_le _) (Nat.zero_le _) rfl rfl rfl (b_Mill_keepFault (by omega) h) (fun M1 h => ?_)
        refine r_goto (kd120 rfl) ?_
        exact (b_Mill_load_106 hd h).less (e_sc (List.mem_of_getElem? (i := 1) rfl) e_sn)
    · have h := h.2 c
      refine r_aload_n (kd120 rfl) rfl rfl ?_
      refine r_iconst (kd120 rfl) (y := 2) (by decide) rfl ?_
      refine r_aload_n (kd120 rfl) rfl rfl ?_
      obtain ⟨g, h⟩ := h
      refine r_get2 (kd120 rfl) (by decide) rfl g rfl ?_
      obtain ⟨g, h⟩ := h
      refine r_get0 (kd120 rfl) (by decide) rfl g rfl ?_
      refine r_aload_n (kd120 rfl) rfl rfl ?_
      obtain ⟨g, h⟩ := h
      refine r_get2 (kd120 rfl) (by decide) rfl g rfl ?_
      obtain ⟨g, h⟩ := h
      refine r_get0 (kd120 rfl) (by decide) rfl g rfl ?_
      obtain ⟨g, h⟩ := h
      refine r_callVV (d' := d - 1) (by omega) (kd120 rfl) (by decide) rfl rfl rfl rfl (Nat.le_of_ble_eq_true rfl) rfl L121 (Nat.le_of_ble_eq_true rfl) (Nat.le_of_ble_eq_true rfl) g (Nat.zero_le _) (Nat.zero_le _) rfl rfl rfl (b_Mill_keepFault (by omega) h) (fun M1 h => ?_)
      refine r_goto (kd120 rfl) ?_
      exact (b_Mill_load_106 hd h).less (e_sc (List.mem_of_getElem? (i := 1) rfl) e_sn)
  · have h := h.2 c
    refine r_aload_n (kd120 rfl) rfl rfl ?_
    refine r_iconst (kd120 rfl) (y := 1) (by decide) rfl ?_
    refine r_iload_n (kd120 rfl) rfl rfl ?_
    refine r_iconst (kd120 rfl) (y := 0) (by decide) rfl ?_
    obtain ⟨g, h⟩ := h
    refine r_callVV (d' := d - 1) (by omega) (kd120 rfl) (by decide) rfl rfl rfl rfl (Nat.le_of_ble_eq_true rfl) rfl L121 (Nat.le_of_ble_eq_true rfl) (Nat.le_of_ble_eq_true rfl) g (Nat.zero_le _) (Nat.zero_le _) rfl rfl rfl (b_Mill_keepFault (by omega) h) (fun M1 h => ?_)
    refine r_goto (kd120 rfl) ?_
    exact (b_Mill_load_106 hd h).less (e_sc (List.mem_of_getElem? (i := 1) rfl) e_sn)
/-- TierMill.fault(I)I -/
theorem kd122 {pc : Nat} {q : eI} (h : e_d122.lookup pc = some q) : e_dec 122 pc = some q := h
theorem L122 : (e_m 122).2.2.1 = 2 := rfl
theorem R122 : (e_m 122).2.2.2.1 = (some .int) := rfl
def w_Mill_fault (l0 : Nat) (l1 : Int32) (M : eM) (Q : Int32 → eM → Prop) : Prop := (l1 = 0 → e_ob M l0 11 ∧ Q (gi M l0 7) M) ∧ (¬ l1 = 0 → (l1 = 1 → e_ob M l0 11 ∧ Q (gi M l0 8) M) ∧ (¬ l1 = 1 → (l1 = 2 → e_ob M l0 11 ∧ Q (gi M l0 9) M) ∧ (¬ l1 = 2 → Q ((-1) : Int32) M)))
theorem b_Mill_fault {d : Nat} {l0 : Nat} {l1 : Int32} {M : eM} {Q : Int32 → eM → Prop} (hd : 0 ≤ d) (h : w_Mill_fault l0 l1 M Q) : e_CI 122 d 0 0 [.ref l0, .int l1] M Q := by
  unfold w_Mill_fault at h
  show e_E 122 d 0 0 0 [(0, .ref l0), (1, .int l1)] [] M (e_QI Q)
  refine r_iload_n (kd122 rfl) rfl rfl ?_
  refine r_tableswitch (kd122 rfl) (u := 43) (qs := [(0, 28), (1, 33), (2, 38)]) rfl rfl rfl (by decide) ?_
  refine ⟨fun c => ?_, fun c => ?_⟩
  · have h := h.1 c
    refine r_aload_n (kd122 rfl) rfl rfl ?_
    obtain ⟨g, h⟩ := h
    refine r_get0 (kd122 rfl) (by decide) rfl g rfl ?_
    exact r_ireturn (kd122 rfl) R122 h
  have h := h.2 c
  refine ⟨fun c => ?_, fun c => ?_⟩
  · have h := h.1 c
    refine r_aload_n (kd122 rfl) rfl rfl ?_
    obtain ⟨g, h⟩ := h
    refine r_get0 (kd122 rfl) (by decide) rfl g rfl ?_
    exact r_ireturn (kd122 rfl) R122 h
  have h := h.2 c
  refine ⟨fun c => ?_, fun c => ?_⟩
  · have h := h.1 c
    refine r_aload_n (kd122 rfl) rfl rfl ?_
    obtain ⟨g, h⟩ := h
    refine r_get0 (kd122 rfl) (by decide) rfl g rfl ?_
    exact r_ireturn (kd122 rfl) R122 h
  have h := h.2 c
  show e_E 122 _ _ _ 43 _ _ _ _
  refine r_iconst (kd122 rfl) (y := (-1)) (by decide) rfl ?_
  exact r_ireturn (kd122 rfl) R122 h
/-- TierMill.slotNumber(III)I -/
theorem kd124 {pc : Nat} {q : eI} (h : e_d124.lookup pc = some q) : e_dec 124 pc = some q := h
theorem L124 : (e_m 124).2.2.1 = 3 := rfl
theorem R124 : (e_m 124).2.2.2.1 = (some .int) := rfl
def w_Mill_slotNumber_33 (M : eM) (Q : Int32 → eM → Prop) : Prop := Q ((-1) : Int32) M
theorem b_Mill_slotNumber_33 {d : Nat} {M : eM} {Q : Int32 → eM → Prop} (hd : 0 ≤ d) (h : w_Mill_slotNumber_33 M Q ) : e_E 124 d 0 0 33 [] [] M (e_QI Q) := by
  unfold w_Mill_slotNumber_33 at h
  refine r_iconst (kd124 rfl) (y := (-1)) (by decide) rfl ?_
  exact r_ireturn (kd124 rfl) R124 h
def w_Mill_slotNumber_11 (l0 : Int32) (l2 : Int32) (M : eM) (Q : Int32 → eM → Prop) : Prop := (l0 < 100 → w_Mill_slotNumber_33 M Q) ∧ (¬ l0 < 100 → (l2 ≤ (l0 - 100) → w_Mill_slotNumber_33 M Q) ∧ (¬ l2 ≤ (l0 - 100) → Q ((8 + l0) - 100) M))
theorem b_Mill_slotNumber_11 {d : Nat} {l0 : Int32} {l2 : Int32} {M : eM} {Q : Int32 → eM → Prop} (hd : 0 ≤ d) (h : w_Mill_slotNumber_11 l0 l2 M Q ) : e_E 124 d 0 0 11 [(0, .int l0), (2, .int l2)] [] M (e_QI Q) := by
  unfold w_Mill_slotNumber_11 at h
  refine r_iload_n (kd124 rfl) rfl rfl ?_
  refine r_bipush (kd124 rfl) (y := 100) (by decide) rfl ?_
  refine r_icmp_lt (kd124 rfl) rfl (fun c => ?_) (fun c => ?_)
  · have h := h.1 c
    exact (b_Mill_slotNumber_33 hd h).less e_sn
  · have h := h.2 c
    refine r_iload_n (kd124 rfl) rfl rfl ?_
    refine r_bipush (kd124 rfl) (y := 100) (by decide) rfl ?_
    refine r_isub (kd124 rfl) rfl ?_
    refine r_iload_n (kd124 rfl) rfl rfl ?_
    refine r_icmp_ge (kd124 rfl) rfl (fun c => ?_) (fun c => ?_)
    · have h := h.1 c
      exact (b_Mill_slotNumber_33 hd h).less e_sn
    · have h := h.2 c
      refine r_bipush (kd124 rfl) (y := 8) (by decide) rfl ?_
      refine r_iload_n (kd124 rfl) rfl rfl ?_
      refine r_iadd (kd124 rfl) rfl ?_
      refine r_bipush (kd124 rfl) (y := 100) (by decide) rfl ?_
      refine r_isub (kd124 rfl) rfl ?_
      exact r_ireturn (kd124 rfl) R124 h
def w_Mill_slotNumber (l0 : Int32) (l1 : Int32) (l2 : Int32) (M : eM) (Q : Int32 → eM → Prop) : Prop := (l0 < 0 → w_Mill_slotNumber_11 l0 l2 M Q) ∧ (¬ l0 < 0 → (l1 ≤ l0 → w_Mill_slotNumber_11 l0 l2 M Q) ∧ (¬ l1 ≤ l0 → Q l0 M))
theorem b_Mill_slotNumber {d : Nat} {l0 : Int32} {l1 : Int32} {l2 : Int32} {M : eM} {Q : Int32 → eM → Prop} (hd : 0 ≤ d) (h : w_Mill_slotNumber l0 l1 l2 M Q) : e_CI 124 d 0 0 [.int l0, .int l1, .int l2] M Q := by
  unfold w_Mill_slotNumber at h
  show e_E 124 d 0 0 0 [(0, .int l0), (1, .int l1), (2, .int l2)] [] M (e_QI Q)
  refine r_iload_n (kd124 rfl) rfl rfl ?_
  refine r_if_lt (kd124 rfl) rfl (fun c => ?_) (fun c => ?_)
  · have h := h.1 c
    exact (b_Mill_slotNumber_11 hd h).less (e_sc (List.mem_of_getElem? (i := 0) rfl) (e_sc (List.mem_of_getElem? (i := 2) rfl) e_sn))
  · have h := h.2 c
    refine r_iload_n (kd124 rfl) rfl rfl ?_
    refine r_iload_n (kd124 rfl) rfl rfl ?_
    refine r_icmp_ge (kd124 rfl) rfl (fun c => ?_) (fun c => ?_)
    · have h := h.1 c
      exact (b_Mill_slotNumber_11 hd h).less (e_sc (List.mem_of_getElem? (i := 0) rfl) (e_sc (List.mem_of_getElem? (i := 2) rfl) e_sn))
    · have h := h.2 c
      refine r_iload_n (kd124 rfl) rfl rfl ?_
      exact r_ireturn (kd124 rfl) R124 h
/-- TierMill.kind(III)I -/
theorem kd123 {pc : Nat} {q : eI} (h : e_d123.lookup pc = some q) : e_dec 123 pc = some q := h
theorem L123 : (e_m 123).2.2.1 = 7 := rfl
theorem R123 : (e_m 123).2.2.2.1 = (some .int) := rfl
def w_Mill_kind_19 (M : eM) (Q : Int32 → eM → Prop) : Prop := Q ((-1) : Int32) M
theorem b_Mill_kind_19 {d : Nat} {M : eM} {Q : Int32 → eM → Prop} (hd : 2 ≤ d) (h : w_Mill_kind_19 M Q ) : e_E 123 d 0 0 19 [] [] M (e_QI Q) := by
  unfold w_Mill_kind_19 at h
  refine r_iconst (kd123 rfl) (y := (-1)) (by decide) rfl ?_
  exact r_ireturn (kd123 rfl) R123 h
def w_Mill_kind_98 (s0 : Int32) (M : eM) (Q : Int32 → eM → Prop) : Prop := Q s0 M
theorem b_Mill_kind_98 {d : Nat} {s0 : Int32} {M : eM} {Q : Int32 → eM → Prop} (hd : 2 ≤ d) (h : w_Mill_kind_98 s0 M Q ) : e_E 123 d 0 0 98 [] [.int s0] M (e_QI Q) := by
  unfold w_Mill_kind_98 at h
  exact r_ireturn (kd123 rfl) R123 h
def w_Mill_kind (l0 : Nat) (l1 : Int32) (l2 : Int32) (l3 : Int32) (M : eM) (Q : Int32 → eM → Prop) : Prop := e_ob M l0 11 ∧ ((gi M l0 4) = 0 → w_Mill_kind_19 M Q) ∧ (¬ (gi M l0 4) = 0 → e_ob M l0 11 ∧ e_ob M (gr M l0 5) 6 ∧ w_Program_begins (gr M l0 5) l1 l2 M (fun (v2 : Int32) (M1 : eM) => (¬ v2 = 0 → e_ob M1 l0 11 ∧ e_ob M1 (gr M1 l0 5) 6 ∧ (e_ar M1 (gr M1 (gr M1 l0 5) 10) 23 l1 ∨ e_ar M1 (gr M1 (gr M1 l0 5) 10) 24 l1) ∧ e_ob M1 (gr M1 (gr M1 (gr M1 l0 5) 10) l1.toNatClampNeg) 8 ∧ e_ob M1 l0 11 ∧ e_ob M1 (gr M1 l0 5) 6 ∧ e_ai M1 (gr M1 (gr M1 l0 5) 15) ((gi M1 (gr M1 (gr M1 (gr M1 l0 5) 10) l1.toNatClampNeg) 5) + l2) ∧ (0 ≤ (gi M1 (gr M1 (gr M1 l0 5) 15) ((gi M1 (gr M1 (gr M1 (gr M1 l0 5) 10) l1.toNatClampNeg) 5) + l2).toNatClampNeg) → e_ob M1 (gr M1 (gr M1 (gr M1 l0 5) 10) l1.toNatClampNeg) 8 ∧ e_ob M1 l0 11 ∧ e_ob M1 (gr M1 l0 5) 6 ∧ e_ai M1 (gr M1 (gr M1 l0 5) 15) ((gi M1 (gr M1 (gr M1 (gr M1 l0 5) 10) l1.toNatClampNeg) 5) + l2) ∧ w_Mill_slotNumber l3 (gi M1 (gr M1 (gr M1 (gr M1 l0 5) 10) l1.toNatClampNeg) 3) (gi M1 (gr M1 (gr M1 l0 5) 15) ((gi M1 (gr M1 (gr M1 (gr M1 l0 5) 10) l1.toNatClampNeg) 5) + l2).toNatClampNeg) M1 (fun (v4 : Int32) (M3 : eM) => (¬ v4 = (-1) → e_ob M3 l0 11 ∧ e_ob M3 (gr M3 l0 5) 6 ∧ w_Program_kindAt (gr M3 l0 5) ((gi M1 (gr M1 (gr M1 (gr M1 l0 5) 10) l1.toNatClampNeg) 5) + l2) v4 M3 (fun (v6 : Int32) (M5 : eM) => w_Mill_kind_98 v6 M5 Q)) ∧ (v4 = (-1) → w_Mill_kind_98 (-1) M3 Q))) ∧ (¬ 0 ≤ (gi M1 (gr M1 (gr M1 l0 5) 15) ((gi M1 (gr M1 (gr M1 (gr M1 l0 5) 10) l1.toNatClampNeg) 5) + l2).toNatClampNeg) → Q ((-1) : Int32) M1)) ∧ (v2 = 0 → w_Mill_kind_19 M1 Q)))
theorem b_Mill_kind {d : Nat} {l0 : Nat} {l1 : Int32} {l2 : Int32} {l3 : Int32} {M : eM} {Q : Int32 → eM → Prop} (hd : 2 ≤ d) (h : w_Mill_kind l0 l1 l2 l3 M Q) : e_CI 123 d 0 0 [.ref l0, .int l1, .int l2, .int l3] M Q := by
  unfold w_Mill_kind at h
  show e_E 123 d 0 0 0 [(0, .ref l0), (1, .int l1), (2, .int l2), (3, .int l3)] [] M (e_QI Q)
  refine r_aload_n (kd123 rfl) rfl rfl ?_
  obtain ⟨g, h⟩ := h
  refine r_get3 (kd123 rfl) (by decide) rfl g rfl ?_
  refine r_if_eq (kd123 rfl) rfl (fun c => ?_) (fun c => ?_)
  · have h := h.1 c
    exact (b_Mill_kind_19 hd h).less e_sn
  · have h := h.2 c
    refine r_aload_n (kd123 rfl) rfl rfl ?_
    obtain ⟨g, h⟩ := h
    refine r_get2 (kd123 rfl) (by decide) rfl g rfl ?_
    refine r_iload_n (kd123 rfl) rfl rfl ?_
    refine r_iload_n (kd123 rfl) rfl rfl ?_
    obtain ⟨g, h⟩ := h
    refine r_callVI (d' := d - 1) (by omega) (kd123 rfl) (by decide) rfl rfl rfl rfl (Nat.le_of_ble_eq_true rfl) rfl L67 (Nat.le_of_ble_eq_true rfl) (Nat.le_of_ble_eq_true rfl) g (Nat.zero_le _) (Nat.zero_le _) rfl rfl rfl (b_Program_begins (by omega) h) (fun x1 M1 h => ?_)
    refine r_if_ne (kd123 rfl) rfl (fun c => ?_) (fun c => ?_)
    · have h := h.1 c
      refine r_aload_n (kd123 rfl) rfl rfl ?_
      obtain ⟨g, h⟩ := h
      refine r_get2 (kd123 rfl) (by decide) rfl g rfl ?_
      obtain ⟨g, h⟩ := h
      refine r_get2 (kd123 rfl) (by decide) rfl g rfl ?_
      refine r_iload_n (kd123 rfl) rfl rfl ?_
      obtain ⟨g, h⟩ := h
      refine r_aaload (kd123 rfl) g rfl ?_
      refine r_astore (kd123 rfl) L123 (by decide) rfl rfl ?_
      refine r_aload (kd123 rfl) rfl rfl ?_
      obtain ⟨g, h⟩ := h
      refine r_get0 (kd123 rfl) (by decide) rfl g rfl ?_
      refine r_iload_n (kd123 rfl) rfl rfl ?_
      refine r_iadd (kd123 rfl) rfl ?_
      refine r_istore (kd123 rfl) L123 (by decide) rfl rfl ?_
      refine r_aload_n (kd123 rfl) rfl rfl ?_
      obtain ⟨g, h⟩ := h
      refine r_get2 (kd123 rfl) (by decide) rfl g rfl ?_
      obtain ⟨g, h⟩ := h
      refine r_get2 (kd123 rfl) (by decide) rfl g rfl ?_
      refine r_iload (kd123 rfl) rfl rfl ?_
      obtain ⟨g, h⟩ := h
      refine r_iaload (kd123 rfl) g rfl ?_
      refine r_if_ge (kd123 rfl) rfl (fun c => ?_) (fun c => ?_)
      · have h := h.1 c
        refine r_iload_n (kd123 rfl) rfl rfl ?_
        refine r_aload (kd123 rfl) rfl rfl ?_
        obtain ⟨g, h⟩ := h
        refine r_get0 (kd123 rfl) (by decide) rfl g rfl ?_
        refine r_aload_n (kd123 rfl) rfl rfl ?_
        obtain ⟨g, h⟩ := h
        refine r_get2 (kd123 rfl) (by decide) rfl g rfl ?_
        obtain ⟨g, h⟩ := h
        refine r_get2 (kd123 rfl) (by decide) rfl g rfl ?_
        refine r_iload (kd123 rfl) rfl rfl ?_
        obtain ⟨g, h⟩ := h
        refine r_iaload (kd123 rfl) g rfl ?_
        refine r_callSI (d' := d - 1) (by omega) (kd123 rfl) (by decide) rfl rfl rfl rfl (Nat.le_of_ble_eq_true rfl) rfl L124 (Nat.le_of_ble_eq_true rfl) (Nat.le_of_ble_eq_true rfl) (Nat.zero_le _) (Nat.zero_le _) rfl rfl rfl (b_Mill_slotNumber (by omega) h) (fun x1 M1 h => ?_)
        refine r_istore (kd123 rfl) L123 (by decide) rfl rfl ?_
        refine r_iload (kd123 rfl) rfl rfl ?_
        refine r_iconst (kd123 rfl) (y := (-1)) (by decide) rfl ?_
        refine r_icmp_ne (kd123 rfl) rfl (fun c => ?_) (fun c => ?_)
        · have h := h.1 c
          refine r_aload_n (kd123 rfl) rfl rfl ?_
          obtain ⟨g, h⟩ := h
          refine r_get2 (kd123 rfl) (by decide) rfl g rfl ?_
          refine r_iload (kd123 rfl) rfl rfl ?_
          refine r_iload (kd123 rfl) rfl rfl ?_
          obtain ⟨g, h⟩ := h
          refine r_callVI (d' := d - 1) (by omega) (kd123 rfl) (by decide) rfl rfl rfl rfl (Nat.le_of_ble_eq_true rfl) rfl L68 (Nat.le_of_ble_eq_true rfl) (Nat.le_of_ble_eq_true rfl) g (Nat.zero_le _) (Nat.zero_le _) rfl rfl rfl (b_Program_kindAt (by omega) h) (fun x1 M1 h => ?_)
          exact (b_Mill_kind_98 hd h).less e_sn
        · have h := h.2 c
          refine r_iconst (kd123 rfl) (y := (-1)) (by decide) rfl ?_
          refine r_goto (kd123 rfl) ?_
          exact (b_Mill_kind_98 hd h).less e_sn
      · have h := h.2 c
        refine r_iconst (kd123 rfl) (y := (-1)) (by decide) rfl ?_
        exact r_ireturn (kd123 rfl) R123 h
    · have h := h.2 c
      exact (b_Mill_kind_19 hd h).less e_sn
/-- TierMill.tiers(IIII)Z -/
theorem kd125 {pc : Nat} {q : eI} (h : e_d125.lookup pc = some q) : e_dec 125 pc = some q := h
theorem L125 : (e_m 125).2.2.1 = 6 := rfl
theorem R125 : (e_m 125).2.2.2.1 = (some .boolean) := rfl
def w_Mill_tiers_24 (M : eM) (Q : Int32 → eM → Prop) : Prop := ((0 : Int32) = 0 ∨ (0 : Int32) = 1) ∧ Q (0 : Int32) M
theorem b_Mill_tiers_24 {d : Nat} {M : eM} {Q : Int32 → eM → Prop} (hd : 0 ≤ d) (h : w_Mill_tiers_24 M Q ) : e_E 125 d 0 0 24 [] [] M (e_QI Q) := by
  unfold w_Mill_tiers_24 at h
  refine r_iconst (kd125 rfl) (y := 0) (by decide) rfl ?_
  exact r_zreturn (kd125 rfl) R125 h.1 h.2
def w_Mill_tiers_47 (M : eM) (Q : Int32 → eM → Prop) : Prop := ((0 : Int32) = 0 ∨ (0 : Int32) = 1) ∧ Q (0 : Int32) M
theorem b_Mill_tiers_47 {d : Nat} {M : eM} {Q : Int32 → eM → Prop} (hd : 0 ≤ d) (h : w_Mill_tiers_47 M Q ) : e_E 125 d 0 0 47 [] [] M (e_QI Q) := by
  unfold w_Mill_tiers_47 at h
  refine r_iconst (kd125 rfl) (y := 0) (by decide) rfl ?_
  exact r_zreturn (kd125 rfl) R125 h.1 h.2
def w_Mill_tiers (l0 : Nat) (l1 : Int32) (l2 : Int32) (l3 : Int32) (l4 : Int32) (M : eM) (Q : Int32 → eM → Prop) : Prop := (l1 < 1 → w_Mill_tiers_24 M Q) ∧ (¬ l1 < 1 → (1000 < l1 → w_Mill_tiers_24 M Q) ∧ (¬ 1000 < l1 → (l2 < 1 → w_Mill_tiers_24 M Q) ∧ (¬ l2 < 1 → (l2 ≤ 1000 → (l3 < 0 → w_Mill_tiers_47 M Q) ∧ (¬ l3 < 0 → (4 < l3 → w_Mill_tiers_47 M Q) ∧ (¬ 4 < l3 → (l4 < 0 → w_Mill_tiers_47 M Q) ∧ (¬ l4 < 0 → (l4 ≤ 120 → e_ob M l0 11 ∧ e_ob M (gr M l0 3) 4 ∧ e_ob M (gr M (gr M l0 3) 2) 9 ∧ ∀ M1 : eM, M1 = e_si M (gr M (gr M l0 3) 2) 0 l1 → e_ob M1 (gr M (gr M l0 3) 2) 9 ∧ ∀ M2 : eM, M2 = e_si M1 (gr M (gr M l0 3) 2) 1 l2 → e_ob M2 (gr M (gr M l0 3) 2) 9 ∧ ∀ M3 : eM, M3 = e_si M2 (gr M (gr M l0 3) 2) 2 l3 → e_ob M3 (gr M (gr M l0 3) 2) 9 ∧ ∀ M4 : eM, M4 = e_si M3 (gr M (gr M l0 3) 2) 3 l4 → ((1 : Int32) = 0 ∨ (1 : Int32) = 1) ∧ Q (1 : Int32) M4) ∧ (¬ l4 ≤ 120 → w_Mill_tiers_47 M Q))))) ∧ (¬ l2 ≤ 1000 → w_Mill_tiers_24 M Q))))
theorem b_Mill_tiers {d : Nat} {l0 : Nat} {l1 : Int32} {l2 : Int32} {l3 : Int32} {l4 : Int32} {M : eM} {Q : Int32 → eM → Prop} (hd : 0 ≤ d) (h : w_Mill_tiers l0 l1 l2 l3 l4 M Q) : e_CI 125 d 0 0 [.ref l0, .int l1, .int l2, .int l3, .int l4] M Q := by
  unfold w_Mill_tiers at h
  show e_E 125 d 0 0 0 [(0, .ref l0), (1, .int l1), (2, .int l2), (3, .int l3), (4, .int l4)] [] M (e_QI Q)
  refine r_iload_n (kd125 rfl) rfl rfl ?_
  refine r_iconst (kd125 rfl) (y := 1) (by decide) rfl ?_
  refine r_icmp_lt (kd125 rfl) rfl (fun c => ?_) (fun c => ?_)
  · have h := h.1 c
    exact (b_Mill_tiers_24 hd h).less e_sn
  · have h := h.2 c
    refine r_iload_n (kd125 rfl) rfl rfl ?_
    refine r_sipush (kd125 rfl) (y := 1000) (by decide) rfl ?_
    refine r_icmp_gt (kd125 rfl) rfl (fun c => ?_) (fun c => ?_)
    · have h := h.1 c
      exact (b_Mill_tiers_24 hd h).less e_sn
    · have h := h.2 c
      refine r_iload_n (kd125 rfl) rfl rfl ?_
      refine r_iconst (kd125 rfl) (y := 1) (by decide) rfl ?_
      refine r_icmp_lt (kd125 rfl) rfl (fun c => ?_) (fun c => ?_)
      · have h := h.1 c
        exact (b_Mill_tiers_24 hd h).less e_sn
      · have h := h.2 c
        refine r_iload_n (kd125 rfl) rfl rfl ?_
        refine r_sipush (kd125 rfl) (y := 1000) (by decide) rfl ?_
        refine r_icmp_le (kd125 rfl) rfl (fun c => ?_) (fun c => ?_)
        · have h := h.1 c
          refine r_iload_n (kd125 rfl) rfl rfl ?_
          refine r_if_lt (kd125 rfl) rfl (fun c => ?_) (fun c => ?_)
          · have h := h.1 c
            exact (b_Mill_tiers_47 hd h).less e_sn
          · have h := h.2 c
            refine r_iload_n (kd125 rfl) rfl rfl ?_
            refine r_iconst (kd125 rfl) (y := 4) (by decide) rfl ?_
            refine r_icmp_gt (kd125 rfl) rfl (fun c => ?_) (fun c => ?_)
            · have h := h.1 c
              exact (b_Mill_tiers_47 hd h).less e_sn
            · have h := h.2 c
              refine r_iload (kd125 rfl) rfl rfl ?_
              refine r_if_lt (kd125 rfl) rfl (fun c => ?_) (fun c => ?_)
              · have h := h.1 c
                exact (b_Mill_tiers_47 hd h).less e_sn
              · have h := h.2 c
                refine r_iload (kd125 rfl) rfl rfl ?_
                refine r_bipush (kd125 rfl) (y := 120) (by decide) rfl ?_
                refine r_icmp_le (kd125 rfl) rfl (fun c => ?_) (fun c => ?_)
                · have h := h.1 c
                  refine r_aload_n (kd125 rfl) rfl rfl ?_
                  obtain ⟨g, h⟩ := h
                  refine r_get2 (kd125 rfl) (by decide) rfl g rfl ?_
                  obtain ⟨g, h⟩ := h
                  refine r_get2 (kd125 rfl) (by decide) rfl g rfl ?_
                  refine r_astore (kd125 rfl) L125 (by decide) rfl rfl ?_
                  refine r_aload (kd125 rfl) rfl rfl ?_
                  refine r_iload_n (kd125 rfl) rfl rfl ?_
                  obtain ⟨g, h⟩ := h
                  have h := h _ rfl
                  refine r_put0 (kd125 rfl) (by decide) rfl g rfl ?_
                  refine r_aload (kd125 rfl) rfl rfl ?_
                  refine r_iload_n (kd125 rfl) rfl rfl ?_
                  obtain ⟨g, h⟩ := h
                  have h := h _ rfl
                  refine r_put0 (kd125 rfl) (by decide) rfl g rfl ?_
                  refine r_aload (kd125 rfl) rfl rfl ?_
                  refine r_iload_n (kd125 rfl) rfl rfl ?_
                  obtain ⟨g, h⟩ := h
                  have h := h _ rfl
                  refine r_put0 (kd125 rfl) (by decide) rfl g rfl ?_
                  refine r_aload (kd125 rfl) rfl rfl ?_
                  refine r_iload (kd125 rfl) rfl rfl ?_
                  obtain ⟨g, h⟩ := h
                  have h := h _ rfl
                  refine r_put0 (kd125 rfl) (by decide) rfl g rfl ?_
                  refine r_iconst (kd125 rfl) (y := 1) (by decide) rfl ?_
                  exact r_zreturn (kd125 rfl) R125 h.1 h.2
                · have h := h.2 c
                  exact (b_Mill_tiers_47 hd h).less e_sn
        · have h := h.2 c
          exact (b_Mill_tiers_24 hd h).less e_sn
/-- TierMill.room(I)Z -/
theorem kd126 {pc : Nat} {q : eI} (h : e_d126.lookup pc = some q) : e_dec 126 pc = some q := h
theorem L126 : (e_m 126).2.2.1 = 2 := rfl
theorem R126 : (e_m 126).2.2.2.1 = (some .boolean) := rfl
def w_Mill_room_13 (M : eM) (Q : Int32 → eM → Prop) : Prop := ((0 : Int32) = 0 ∨ (0 : Int32) = 1) ∧ Q (0 : Int32) M
theorem b_Mill_room_13 {d : Nat} {M : eM} {Q : Int32 → eM → Prop} (hd : 0 ≤ d) (h : w_Mill_room_13 M Q ) : e_E 126 d 0 0 13 [] [] M (e_QI Q) := by
  unfold w_Mill_room_13 at h
  refine r_iconst (kd126 rfl) (y := 0) (by decide) rfl ?_
  exact r_zreturn (kd126 rfl) R126 h.1 h.2
def w_Mill_room (l0 : Nat) (l1 : Int32) (M : eM) (Q : Int32 → eM → Prop) : Prop := (l1 < 8 → w_Mill_room_13 M Q) ∧ (¬ l1 < 8 → (l1 ≤ 4000 → e_ob M l0 11 ∧ ∀ M1 : eM, M1 = e_si M l0 10 l1 → ((1 : Int32) = 0 ∨ (1 : Int32) = 1) ∧ Q (1 : Int32) M1) ∧ (¬ l1 ≤ 4000 → w_Mill_room_13 M Q))
theorem b_Mill_room {d : Nat} {l0 : Nat} {l1 : Int32} {M : eM} {Q : Int32 → eM → Prop} (hd : 0 ≤ d) (h : w_Mill_room l0 l1 M Q) : e_CI 126 d 0 0 [.ref l0, .int l1] M Q := by
  unfold w_Mill_room at h
  show e_E 126 d 0 0 0 [(0, .ref l0), (1, .int l1)] [] M (e_QI Q)
  refine r_iload_n (kd126 rfl) rfl rfl ?_
  refine r_bipush (kd126 rfl) (y := 8) (by decide) rfl ?_
  refine r_icmp_lt (kd126 rfl) rfl (fun c => ?_) (fun c => ?_)
  · have h := h.1 c
    exact (b_Mill_room_13 hd h).less e_sn
  · have h := h.2 c
    refine r_iload_n (kd126 rfl) rfl rfl ?_
    refine r_sipush (kd126 rfl) (y := 4000) (by decide) rfl ?_
    refine r_icmp_le (kd126 rfl) rfl (fun c => ?_) (fun c => ?_)
    · have h := h.1 c
      refine r_aload_n (kd126 rfl) rfl rfl ?_
      refine r_iload_n (kd126 rfl) rfl rfl ?_
      obtain ⟨g, h⟩ := h
      have h := h _ rfl
      refine r_put0 (kd126 rfl) (by decide) rfl g rfl ?_
      refine r_iconst (kd126 rfl) (y := 1) (by decide) rfl ?_
      exact r_zreturn (kd126 rfl) R126 h.1 h.2
    · have h := h.2 c
      exact (b_Mill_room_13 hd h).less e_sn
/-- TierMill.give(I)Z -/
theorem kd127 {pc : Nat} {q : eI} (h : e_d127.lookup pc = some q) : e_dec 127 pc = some q := h
theorem L127 : (e_m 127).2.2.1 = 2 := rfl
theorem R127 : (e_m 127).2.2.2.1 = (some .boolean) := rfl
def w_Mill_give (l0 : Nat) (l1 : Int32) (M : eM) (Q : Int32 → eM → Prop) : Prop := e_ob M l0 11 ∧ e_ob M (gr M l0 3) 4 ∧ w_Machine_takeInput (gr M l0 3) l1 M (fun (v2 : Int32) (M1 : eM) => (v2 = 0 ∨ v2 = 1) ∧ Q v2 M1)
theorem b_Mill_give {d : Nat} {l0 : Nat} {l1 : Int32} {M : eM} {Q : Int32 → eM → Prop} (hd : 1 ≤ d) (h : w_Mill_give l0 l1 M Q) : e_CI 127 d 0 0 [.ref l0, .int l1] M Q := by
  unfold w_Mill_give at h
  show e_E 127 d 0 0 0 [(0, .ref l0), (1, .int l1)] [] M (e_QI Q)
  refine r_aload_n (kd127 rfl) rfl rfl ?_
  obtain ⟨g, h⟩ := h
  refine r_get2 (kd127 rfl) (by decide) rfl g rfl ?_
  refine r_iload_n (kd127 rfl) rfl rfl ?_
  obtain ⟨g, h⟩ := h
  refine r_callVI (d' := d - 1) (by omega) (kd127 rfl) (by decide) rfl rfl rfl rfl (Nat.le_of_ble_eq_true rfl) rfl L36 (Nat.le_of_ble_eq_true rfl) (Nat.le_of_ble_eq_true rfl) g (Nat.zero_le _) (Nat.zero_le _) rfl rfl rfl (b_Machine_takeInput (by omega) h) (fun x1 M1 h => ?_)
  exact r_zreturn (kd127 rfl) R127 h.1 h.2
/-- TierMill.start(IIII)Z -/
theorem kd128 {pc : Nat} {q : eI} (h : e_d128.lookup pc = some q) : e_dec 128 pc = some q := h
theorem L128 : (e_m 128).2.2.1 = 7 := rfl
theorem R128 : (e_m 128).2.2.2.1 = (some .boolean) := rfl
def w_Mill_start_23 : Nat → Nat → Nat → Nat → Int32 → Int32 → Int32 → Int32 → Nat → Int32 → eM → (Int32 → eM → Prop) → Prop
  | 0, _, _, _, _, _, _, _, _, _, _, _ => False
  | n + 1, kc, ks, l0, l1, l2, l3, l4, l5, l6, M, Q => e_ob M l5 8 ∧ ((gi M l5 1) ≤ l6 → e_ob M l0 11 ∧ e_ob M (gr M l0 3) 4 ∧ w_Machine_forget (gr M l0 3) M (fun (M2 : eM) => e_ob M2 l0 11 ∧ e_ob M2 l0 11 ∧ e_ob M2 l0 11 ∧ e_ob M2 (gr M2 l0 3) 4 ∧ ∃ kc4 ks5 : Nat, kc4 ≤ kc ∧ ks5 ≤ ks ∧ w_Machine_begin kc4 ks5 (gr M2 l0 3) (gr M2 l0 5) (gi M2 l0 10) M2 (fun (M3 : eM) => e_ob M3 l0 11 ∧ e_ob M3 (gr M3 l0 3) 4 ∧ e_ob M3 (gr M3 (gr M3 l0 3) 0) 2 ∧ w_Frames_setArguments (gr M3 (gr M3 l0 3) 0) l1 l2 l3 l4 M3 (fun (M6 : eM) => ((1 : Int32) = 0 ∨ (1 : Int32) = 1) ∧ Q (1 : Int32) M6)))) ∧ (¬ (gi M l5 1) ≤ l6 → e_ob M l5 8 ∧ e_ai M (gr M l5 0) l6 ∧ ((gi M (gr M l5 0) l6.toNatClampNeg) = 1 → (fun kc ks l0 l1 l2 l3 l4 l5 l6 M => w_Mill_start_23 n kc ks l0 l1 l2 l3 l4 l5 l6 M Q ) kc ks l0 l1 l2 l3 l4 l5 (l6 + 1) M) ∧ (¬ (gi M (gr M l5 0) l6.toNatClampNeg) = 1 → ((0 : Int32) = 0 ∨ (0 : Int32) = 1) ∧ Q (0 : Int32) M))
theorem b_Mill_start_23 {d : Nat} {Q : Int32 → eM → Prop} (hd : 11 ≤ d) (n : Nat) : ∀ (kc ks : Nat) (l0 : Nat) (l1 : Int32) (l2 : Int32) (l3 : Int32) (l4 : Int32) (l5 : Nat) (l6 : Int32) (M : eM), w_Mill_start_23 n kc ks l0 l1 l2 l3 l4 l5 l6 M Q → e_E 128 d kc ks 23 [(0, .ref l0), (1, .int l1), (2, .int l2), (3, .int l3), (4, .int l4), (5, .ref l5), (6, .int l6)] [] M (e_QI Q) := by
  induction n with
  | zero => intro kc ks l0 l1 l2 l3 l4 l5 l6 M h; exact False.elim h
  | succ n ih =>
    intro kc ks l0 l1 l2 l3 l4 l5 l6 M h
    have hk23 := ih
    refine r_iload (kd128 rfl) rfl rfl ?_
    refine r_aload (kd128 rfl) rfl rfl ?_
    obtain ⟨g, h⟩ := h
    refine r_get0 (kd128 rfl) (by decide) rfl g rfl ?_
    refine r_icmp_ge (kd128 rfl) rfl (fun c => ?_) (fun c => ?_)
    · have h := h.1 c
      refine r_aload_n (kd128 rfl) rfl rfl ?_
      obtain ⟨g, h⟩ := h
      refine r_get2 (kd128 rfl) (by decide) rfl g rfl ?_
      obtain ⟨g, h⟩ := h
      refine r_callVV (d' := d - 1) (by omega) (kd128 rfl) (by decide) rfl rfl rfl rfl (Nat.le_of_ble_eq_true rfl) rfl L37 (Nat.le_of_ble_eq_true rfl) (Nat.le_of_ble_eq_true rfl) g (Nat.zero_le _) (Nat.zero_le _) rfl rfl rfl (b_Machine_forget (by omega) h) (fun M1 h => ?_)
      refine r_aload_n (kd128 rfl) rfl rfl ?_
      obtain ⟨g, h⟩ := h
      refine r_get2 (kd128 rfl) (by decide) rfl g rfl ?_
      refine r_aload_n (kd128 rfl) rfl rfl ?_
      obtain ⟨g, h⟩ := h
      refine r_get2 (kd128 rfl) (by decide) rfl g rfl ?_
      refine r_aload_n (kd128 rfl) rfl rfl ?_
      obtain ⟨g, h⟩ := h
      refine r_get0 (kd128 rfl) (by decide) rfl g rfl ?_
      obtain ⟨g, h⟩ := h
      obtain ⟨mc, ms, q1, q2, h⟩ := h
      refine r_callVV (d' := d - 1) (by omega) (kd128 rfl) (by decide) rfl rfl rfl rfl (Nat.le_of_ble_eq_true rfl) rfl L38 (Nat.le_of_ble_eq_true rfl) (Nat.le_of_ble_eq_true rfl) g q1 q2 rfl rfl rfl (b_Machine_begin (by omega) h) (fun M1 h => ?_)
      refine r_aload_n (kd128 rfl) rfl rfl ?_
      obtain ⟨g, h⟩ := h
      refine r_get2 (kd128 rfl) (by decide) rfl g rfl ?_
      obtain ⟨g, h⟩ := h
      refine r_get2 (kd128 rfl) (by decide) rfl g rfl ?_
      refine r_iload_n (kd128 rfl) rfl rfl ?_
      refine r_iload_n (kd128 rfl) rfl rfl ?_
      refine r_iload_n (kd128 rfl) rfl rfl ?_
      refine r_iload (kd128 rfl) rfl rfl ?_
      obtain ⟨g, h⟩ := h
      refine r_callVV (d' := d - 1) (by omega) (kd128 rfl) (by decide) rfl rfl rfl rfl (Nat.le_of_ble_eq_true rfl) rfl L14 (Nat.le_of_ble_eq_true rfl) (Nat.le_of_ble_eq_true rfl) g (Nat.zero_le _) (Nat.zero_le _) rfl rfl rfl (b_Frames_setArguments (by omega) h) (fun M1 h => ?_)
      refine r_iconst (kd128 rfl) (y := 1) (by decide) rfl ?_
      exact r_zreturn (kd128 rfl) R128 h.1 h.2
    · have h := h.2 c
      refine r_aload (kd128 rfl) rfl rfl ?_
      obtain ⟨g, h⟩ := h
      refine r_get2 (kd128 rfl) (by decide) rfl g rfl ?_
      refine r_iload (kd128 rfl) rfl rfl ?_
      obtain ⟨g, h⟩ := h
      refine r_iaload (kd128 rfl) g rfl ?_
      refine r_iconst (kd128 rfl) (y := 1) (by decide) rfl ?_
      refine r_icmp_eq (kd128 rfl) rfl (fun c => ?_) (fun c => ?_)
      · have h := h.1 c
        refine r_iinc (kd128 rfl) rfl (y := 1) (by decide) L128 (by decide) rfl rfl ?_
        refine r_goto (kd128 rfl) ?_
        exact (hk23 _ _ _ _ _ _ _ _ _ _ h).less (e_sc (List.mem_of_getElem? (i := 1) rfl) (e_sc (List.mem_of_getElem? (i := 2) rfl) (e_sc (List.mem_of_getElem? (i := 3) rfl) (e_sc (List.mem_of_getElem? (i := 4) rfl) (e_sc (List.mem_of_getElem? (i := 5) rfl) (e_sc (List.mem_of_getElem? (i := 6) rfl) (e_sc (List.mem_of_getElem? (i := 0) rfl) e_sn)))))))
      · have h := h.2 c
        refine r_iconst (kd128 rfl) (y := 0) (by decide) rfl ?_
        exact r_zreturn (kd128 rfl) R128 h.1 h.2
def w_Mill_start (kc ks : Nat) (l0 : Nat) (l1 : Int32) (l2 : Int32) (l3 : Int32) (l4 : Int32) (M : eM) (Q : Int32 → eM → Prop) : Prop := e_ob M l0 11 ∧ (¬ (gi M l0 4) = 0 → e_ob M l0 11 ∧ e_ob M (gr M l0 5) 6 ∧ (e_ar M (gr M (gr M l0 5) 10) 23 0 ∨ e_ar M (gr M (gr M l0 5) 10) 24 0) ∧ ∃ n1 : Nat, w_Mill_start_23 n1 kc ks l0 l1 l2 l3 l4 (gr M (gr M (gr M l0 5) 10) (0 : Int32).toNatClampNeg) 0 M Q) ∧ ((gi M l0 4) = 0 → ((0 : Int32) = 0 ∨ (0 : Int32) = 1) ∧ Q (0 : Int32) M)
theorem b_Mill_start {d : Nat} {kc ks : Nat} {l0 : Nat} {l1 : Int32} {l2 : Int32} {l3 : Int32} {l4 : Int32} {M : eM} {Q : Int32 → eM → Prop} (hd : 11 ≤ d) (h : w_Mill_start kc ks l0 l1 l2 l3 l4 M Q) : e_CI 128 d kc ks [.ref l0, .int l1, .int l2, .int l3, .int l4] M Q := by
  unfold w_Mill_start at h
  show e_E 128 d kc ks 0 [(0, .ref l0), (1, .int l1), (2, .int l2), (3, .int l3), (4, .int l4)] [] M (e_QI Q)
  refine r_aload_n (kd128 rfl) rfl rfl ?_
  obtain ⟨g, h⟩ := h
  refine r_get3 (kd128 rfl) (by decide) rfl g rfl ?_
  refine r_if_ne (kd128 rfl) rfl (fun c => ?_) (fun c => ?_)
  · have h := h.1 c
    refine r_aload_n (kd128 rfl) rfl rfl ?_
    obtain ⟨g, h⟩ := h
    refine r_get2 (kd128 rfl) (by decide) rfl g rfl ?_
    obtain ⟨g, h⟩ := h
    refine r_get2 (kd128 rfl) (by decide) rfl g rfl ?_
    refine r_iconst (kd128 rfl) (y := 0) (by decide) rfl ?_
    obtain ⟨g, h⟩ := h
    refine r_aaload (kd128 rfl) g rfl ?_
    refine r_astore (kd128 rfl) L128 (by decide) rfl rfl ?_
    refine r_iconst (kd128 rfl) (y := 0) (by decide) rfl ?_
    refine r_istore (kd128 rfl) L128 (by decide) rfl rfl ?_
    obtain ⟨n, h⟩ := h
    exact (b_Mill_start_23 hd n _ _ _ _ _ _ _ _ _ _ h).less (e_sc (List.mem_of_getElem? (i := 2) rfl) (e_sc (List.mem_of_getElem? (i := 3) rfl) (e_sc (List.mem_of_getElem? (i := 4) rfl) (e_sc (List.mem_of_getElem? (i := 5) rfl) (e_sc (List.mem_of_getElem? (i := 6) rfl) (e_sc (List.mem_of_getElem? (i := 1) rfl) (e_sc (List.mem_of_getElem? (i := 0) rfl) e_sn)))))))
  · have h := h.2 c
    refine r_iconst (kd128 rfl) (y := 0) (by decide) rfl ?_
    exact r_zreturn (kd128 rfl) R128 h.1 h.2
/-- TierMill.run(I)I -/
theorem kd129 {pc : Nat} {q : eI} (h : e_d129.lookup pc = some q) : e_dec 129 pc = some q := h
theorem L129 : (e_m 129).2.2.1 = 3 := rfl
theorem R129 : (e_m 129).2.2.2.1 = (some .int) := rfl
def w_Mill_run_12 (kc ks : Nat) (M : eM) (Q : Int32 → eM → Prop) (X : Nat → eM → Prop) : Prop := 1 ≤ kc ∧ 6 ≤ ks ∧ X 91 M
theorem b_Mill_run_12 {d : Nat} {kc ks : Nat} {M : eM} {Q : Int32 → eM → Prop} {X : Nat → eM → Prop} (hd : 13 ≤ d) (h : w_Mill_run_12 kc ks M Q X ) : e_E 129 d kc ks 12 [] [] M (e_QX Q X) := by
  unfold w_Mill_run_12 at h
  exact r_throw (kd129 rfl) (by decide) (by decide) h.1 h.2.1 (Or.inr ⟨_, rfl, h.2.2⟩)
def w_Mill_run (kc ks : Nat) (l0 : Nat) (l1 : Int32) (M : eM) (Q : Int32 → eM → Prop) (X : Nat → eM → Prop) : Prop := (l1 < 1 → w_Mill_run_12 kc ks M Q X) ∧ (¬ l1 < 1 → (l1 ≤ 2000 → e_ob M l0 11 ∧ e_ob M (gr M l0 3) 4 ∧ ((gi M (gr M l0 3) 6) = 1 → e_ob M l0 11 ∧ e_ob M (gr M l0 3) 4 ∧ (0 < (60000 - (gi M (gr M l0 3) 10)) → e_ob M l0 11 ∧ e_ob M (gr M l0 3) 4 ∧ ∃ kc2 ks3 : Nat, kc2 ≤ kc ∧ ks3 ≤ ks ∧ w_Machine_advance kc2 ks3 (gr M l0 3) (if (60000 - (gi M (gr M l0 3) 10)) < l1 then (60000 - (gi M (gr M l0 3) 10)) else l1) M (fun (v4 : Int32) (M1 : eM) => Q v4 M1)) ∧ (¬ 0 < (60000 - (gi M (gr M l0 3) 10)) → 1 ≤ kc ∧ 6 ≤ ks ∧ X 93 M)) ∧ (¬ (gi M (gr M l0 3) 6) = 1 → 1 ≤ kc ∧ 6 ≤ ks ∧ X 92 M)) ∧ (¬ l1 ≤ 2000 → w_Mill_run_12 kc ks M Q X))
theorem b_Mill_run {d : Nat} {kc ks : Nat} {l0 : Nat} {l1 : Int32} {M : eM} {Q : Int32 → eM → Prop} {X : Nat → eM → Prop} (hd : 13 ≤ d) (h : w_Mill_run kc ks l0 l1 M Q X) : e_C 129 d kc ks [.ref l0, .int l1] M (e_QX Q X) := by
  unfold w_Mill_run at h
  show e_E 129 d kc ks 0 [(0, .ref l0), (1, .int l1)] [] M (e_QX Q X)
  refine r_iload_n (kd129 rfl) rfl rfl ?_
  refine r_iconst (kd129 rfl) (y := 1) (by decide) rfl ?_
  refine r_icmp_lt (kd129 rfl) rfl (fun c => ?_) (fun c => ?_)
  · have h := h.1 c
    exact (b_Mill_run_12 hd h).less e_sn
  · have h := h.2 c
    refine r_iload_n (kd129 rfl) rfl rfl ?_
    refine r_sipush (kd129 rfl) (y := 2000) (by decide) rfl ?_
    refine r_icmp_le (kd129 rfl) rfl (fun c => ?_) (fun c => ?_)
    · have h := h.1 c
      refine r_aload_n (kd129 rfl) rfl rfl ?_
      obtain ⟨g, h⟩ := h
      refine r_get2 (kd129 rfl) (by decide) rfl g rfl ?_
      obtain ⟨g, h⟩ := h
      refine r_get0 (kd129 rfl) (by decide) rfl g rfl ?_
      refine r_iconst (kd129 rfl) (y := 1) (by decide) rfl ?_
      refine r_icmp_eq (kd129 rfl) rfl (fun c => ?_) (fun c => ?_)
      · have h := h.1 c
        refine r_ldc (kd129 rfl) (y := 60000) (by decide) rfl ?_
        refine r_aload_n (kd129 rfl) rfl rfl ?_
        obtain ⟨g, h⟩ := h
        refine r_get2 (kd129 rfl) (by decide) rfl g rfl ?_
        obtain ⟨g, h⟩ := h
        refine r_get0 (kd129 rfl) (by decide) rfl g rfl ?_
        refine r_isub (kd129 rfl) rfl ?_
        refine r_istore_n (kd129 rfl) L129 (by decide) rfl rfl ?_
        refine r_iload_n (kd129 rfl) rfl rfl ?_
        refine r_if_gt (kd129 rfl) rfl (fun c => ?_) (fun c => ?_)
        · have h := h.1 c
          refine r_aload_n (kd129 rfl) rfl rfl ?_
          obtain ⟨g, h⟩ := h
          refine r_get2 (kd129 rfl) (by decide) rfl g rfl ?_
          refine r_iload_n (kd129 rfl) rfl rfl ?_
          refine r_iload_n (kd129 rfl) rfl rfl ?_
          refine r_mmin (kd129 rfl) (Nat.le_of_ble_eq_true rfl) rfl ?_
          obtain ⟨g, h⟩ := h
          obtain ⟨mc, ms, q1, q2, h⟩ := h
          refine r_callVI (d' := d - 1) (by omega) (kd129 rfl) (by decide) rfl rfl rfl rfl (Nat.le_of_ble_eq_true rfl) rfl L40 (Nat.le_of_ble_eq_true rfl) (Nat.le_of_ble_eq_true rfl) g q1 q2 rfl rfl rfl (b_Machine_advance (by omega) h) (fun x1 M1 h => ?_)
          exact r_ireturnX (kd129 rfl) R129 h
        · have h := h.2 c
          exact r_throw (kd129 rfl) (by decide) (by decide) h.1 h.2.1 (Or.inr ⟨_, rfl, h.2.2⟩)
      · have h := h.2 c
        exact r_throw (kd129 rfl) (by decide) (by decide) h.1 h.2.1 (Or.inr ⟨_, rfl, h.2.2⟩)
    · have h := h.2 c
      exact (b_Mill_run_12 hd h).less e_sn
/-- TierMill.state()I -/
theorem kd130 {pc : Nat} {q : eI} (h : e_d130.lookup pc = some q) : e_dec 130 pc = some q := h
theorem L130 : (e_m 130).2.2.1 = 1 := rfl
theorem R130 : (e_m 130).2.2.2.1 = (some .int) := rfl
def w_Mill_state (l0 : Nat) (M : eM) (Q : Int32 → eM → Prop) : Prop := e_ob M l0 11 ∧ e_ob M (gr M l0 3) 4 ∧ Q (gi M (gr M l0 3) 6) M
theorem b_Mill_state {d : Nat} {l0 : Nat} {M : eM} {Q : Int32 → eM → Prop} (hd : 0 ≤ d) (h : w_Mill_state l0 M Q) : e_CI 130 d 0 0 [.ref l0] M Q := by
  unfold w_Mill_state at h
  show e_E 130 d 0 0 0 [(0, .ref l0)] [] M (e_QI Q)
  refine r_aload_n (kd130 rfl) rfl rfl ?_
  obtain ⟨g, h⟩ := h
  refine r_get2 (kd130 rfl) (by decide) rfl g rfl ?_
  obtain ⟨g, h⟩ := h
  refine r_get0 (kd130 rfl) (by decide) rfl g rfl ?_
  exact r_ireturn (kd130 rfl) R130 h
/-- TierMill.result(I)I -/
theorem kd131 {pc : Nat} {q : eI} (h : e_d131.lookup pc = some q) : e_dec 131 pc = some q := h
theorem L131 : (e_m 131).2.2.1 = 2 := rfl
theorem R131 : (e_m 131).2.2.2.1 = (some .int) := rfl
def w_Mill_result (l0 : Nat) (l1 : Int32) (M : eM) (Q : Int32 → eM → Prop) : Prop := (l1 = 0 → e_ob M l0 11 ∧ e_ob M (gr M l0 3) 4 ∧ Q (gi M (gr M l0 3) 7) M) ∧ (¬ l1 = 0 → (l1 = 1 → e_ob M l0 11 ∧ e_ob M (gr M l0 3) 4 ∧ Q (gi M (gr M l0 3) 8) M) ∧ (¬ l1 = 1 → Q ((-1) : Int32) M))
theorem b_Mill_result {d : Nat} {l0 : Nat} {l1 : Int32} {M : eM} {Q : Int32 → eM → Prop} (hd : 0 ≤ d) (h : w_Mill_result l0 l1 M Q) : e_CI 131 d 0 0 [.ref l0, .int l1] M Q := by
  unfold w_Mill_result at h
  show e_E 131 d 0 0 0 [(0, .ref l0), (1, .int l1)] [] M (e_QI Q)
  refine r_iload_n (kd131 rfl) rfl rfl ?_
  refine r_lookupswitch (kd131 rfl) (u := 44) (qs := [(0, 28), (1, 36)]) rfl rfl (by decide) ?_
  refine ⟨fun c => ?_, fun c => ?_⟩
  · have h := h.1 c
    refine r_aload_n (kd131 rfl) rfl rfl ?_
    obtain ⟨g, h⟩ := h
    refine r_get2 (kd131 rfl) (by decide) rfl g rfl ?_
    obtain ⟨g, h⟩ := h
    refine r_get0 (kd131 rfl) (by decide) rfl g rfl ?_
    exact r_ireturn (kd131 rfl) R131 h
  have h := h.2 c
  refine ⟨fun c => ?_, fun c => ?_⟩
  · have h := h.1 c
    refine r_aload_n (kd131 rfl) rfl rfl ?_
    obtain ⟨g, h⟩ := h
    refine r_get2 (kd131 rfl) (by decide) rfl g rfl ?_
    obtain ⟨g, h⟩ := h
    refine r_get0 (kd131 rfl) (by decide) rfl g rfl ?_
    exact r_ireturn (kd131 rfl) R131 h
  have h := h.2 c
  show e_E 131 _ _ _ 44 _ _ _ _
  refine r_iconst (kd131 rfl) (y := (-1)) (by decide) rfl ?_
  exact r_ireturn (kd131 rfl) R131 h
/-- TierMill.output(I)I -/
theorem kd132 {pc : Nat} {q : eI} (h : e_d132.lookup pc = some q) : e_dec 132 pc = some q := h
theorem L132 : (e_m 132).2.2.1 = 2 := rfl
theorem R132 : (e_m 132).2.2.2.1 = (some .int) := rfl
def w_Mill_output_22 (kc ks : Nat) (M : eM) (Q : Int32 → eM → Prop) (X : Nat → eM → Prop) : Prop := 1 ≤ kc ∧ 6 ≤ ks ∧ X 94 M
theorem b_Mill_output_22 {d : Nat} {kc ks : Nat} {M : eM} {Q : Int32 → eM → Prop} {X : Nat → eM → Prop} (hd : 0 ≤ d) (h : w_Mill_output_22 kc ks M Q X ) : e_E 132 d kc ks 22 [] [] M (e_QX Q X) := by
  unfold w_Mill_output_22 at h
  exact r_throw (kd132 rfl) (by decide) (by decide) h.1 h.2.1 (Or.inr ⟨_, rfl, h.2.2⟩)
def w_Mill_output (kc ks : Nat) (l0 : Nat) (l1 : Int32) (M : eM) (Q : Int32 → eM → Prop) (X : Nat → eM → Prop) : Prop := (l1 < 0 → w_Mill_output_22 kc ks M Q X) ∧ (¬ l1 < 0 → e_ob M l0 11 ∧ e_ob M (gr M l0 3) 4 ∧ ((gi M (gr M l0 3) 5) ≤ l1 → w_Mill_output_22 kc ks M Q X) ∧ (¬ (gi M (gr M l0 3) 5) ≤ l1 → (l1 < 500 → e_ob M l0 11 ∧ e_ob M (gr M l0 3) 4 ∧ e_ai M (gr M (gr M l0 3) 4) l1 ∧ Q (gi M (gr M (gr M l0 3) 4) l1.toNatClampNeg) M) ∧ (¬ l1 < 500 → w_Mill_output_22 kc ks M Q X)))
theorem b_Mill_output {d : Nat} {kc ks : Nat} {l0 : Nat} {l1 : Int32} {M : eM} {Q : Int32 → eM → Prop} {X : Nat → eM → Prop} (hd : 0 ≤ d) (h : w_Mill_output kc ks l0 l1 M Q X) : e_C 132 d kc ks [.ref l0, .int l1] M (e_QX Q X) := by
  unfold w_Mill_output at h
  show e_E 132 d kc ks 0 [(0, .ref l0), (1, .int l1)] [] M (e_QX Q X)
  refine r_iload_n (kd132 rfl) rfl rfl ?_
  refine r_if_lt (kd132 rfl) rfl (fun c => ?_) (fun c => ?_)
  · have h := h.1 c
    exact (b_Mill_output_22 hd h).less e_sn
  · have h := h.2 c
    refine r_iload_n (kd132 rfl) rfl rfl ?_
    refine r_aload_n (kd132 rfl) rfl rfl ?_
    obtain ⟨g, h⟩ := h
    refine r_get2 (kd132 rfl) (by decide) rfl g rfl ?_
    obtain ⟨g, h⟩ := h
    refine r_get0 (kd132 rfl) (by decide) rfl g rfl ?_
    refine r_icmp_ge (kd132 rfl) rfl (fun c => ?_) (fun c => ?_)
    · have h := h.1 c
      exact (b_Mill_output_22 hd h).less e_sn
    · have h := h.2 c
      refine r_iload_n (kd132 rfl) rfl rfl ?_
      refine r_sipush (kd132 rfl) (y := 500) (by decide) rfl ?_
      refine r_icmp_lt (kd132 rfl) rfl (fun c => ?_) (fun c => ?_)
      · have h := h.1 c
        refine r_aload_n (kd132 rfl) rfl rfl ?_
        obtain ⟨g, h⟩ := h
        refine r_get2 (kd132 rfl) (by decide) rfl g rfl ?_
        obtain ⟨g, h⟩ := h
        refine r_get2 (kd132 rfl) (by decide) rfl g rfl ?_
        refine r_iload_n (kd132 rfl) rfl rfl ?_
        obtain ⟨g, h⟩ := h
        refine r_iaload (kd132 rfl) g rfl ?_
        exact r_ireturnX (kd132 rfl) R132 h
      · have h := h.2 c
        exact (b_Mill_output_22 hd h).less e_sn
/-- TierMill.frame(II)I -/
theorem kd133 {pc : Nat} {q : eI} (h : e_d133.lookup pc = some q) : e_dec 133 pc = some q := h
theorem L133 : (e_m 133).2.2.1 = 5 := rfl
theorem R133 : (e_m 133).2.2.2.1 = (some .int) := rfl
def w_Mill_frame (l0 : Nat) (l1 : Int32) (l2 : Int32) (M : eM) (Q : Int32 → eM → Prop) : Prop := e_ob M l0 11 ∧ e_ob M (gr M l0 3) 4 ∧ e_ob M (gr M (gr M l0 3) 0) 2 ∧ w_Frames_fromLatest (gr M (gr M l0 3) 0) l1 M (fun (v2 : Int32) (M1 : eM) => (¬ v2 = (-1) → (l2 = 0 → e_ob M1 (gr M (gr M l0 3) 0) 2 ∧ e_ai M1 (gr M1 (gr M (gr M l0 3) 0) 1) v2 ∧ Q (gi M1 (gr M1 (gr M (gr M l0 3) 0) 1) v2.toNatClampNeg) M1) ∧ (¬ l2 = 0 → (l2 = 1 → e_ob M1 (gr M (gr M l0 3) 0) 2 ∧ e_ai M1 (gr M1 (gr M (gr M l0 3) 0) 2) v2 ∧ Q (gi M1 (gr M1 (gr M (gr M l0 3) 0) 2) v2.toNatClampNeg) M1) ∧ (¬ l2 = 1 → (l2 = 2 → e_ob M1 (gr M (gr M l0 3) 0) 2 ∧ e_ai M1 (gr M1 (gr M (gr M l0 3) 0) 3) v2 ∧ Q (gi M1 (gr M1 (gr M (gr M l0 3) 0) 3) v2.toNatClampNeg) M1) ∧ (¬ l2 = 2 → (l2 = 3 → e_ob M1 (gr M (gr M l0 3) 0) 2 ∧ e_ai M1 (gr M1 (gr M (gr M l0 3) 0) 6) v2 ∧ Q (gi M1 (gr M1 (gr M (gr M l0 3) 0) 6) v2.toNatClampNeg) M1) ∧ (¬ l2 = 3 → Q ((-1) : Int32) M1))))) ∧ (v2 = (-1) → Q ((-1) : Int32) M1))
theorem b_Mill_frame {d : Nat} {l0 : Nat} {l1 : Int32} {l2 : Int32} {M : eM} {Q : Int32 → eM → Prop} (hd : 1 ≤ d) (h : w_Mill_frame l0 l1 l2 M Q) : e_CI 133 d 0 0 [.ref l0, .int l1, .int l2] M Q := by
  unfold w_Mill_frame at h
  show e_E 133 d 0 0 0 [(0, .ref l0), (1, .int l1), (2, .int l2)] [] M (e_QI Q)
  refine r_aload_n (kd133 rfl) rfl rfl ?_
  obtain ⟨g, h⟩ := h
  refine r_get2 (kd133 rfl) (by decide) rfl g rfl ?_
  obtain ⟨g, h⟩ := h
  refine r_get2 (kd133 rfl) (by decide) rfl g rfl ?_
  refine r_astore_n (kd133 rfl) L133 (by decide) rfl rfl ?_
  refine r_aload_n (kd133 rfl) rfl rfl ?_
  refine r_iload_n (kd133 rfl) rfl rfl ?_
  obtain ⟨g, h⟩ := h
  refine r_callVI (d' := d - 1) (by omega) (kd133 rfl) (by decide) rfl rfl rfl rfl (Nat.le_of_ble_eq_true rfl) rfl L11 (Nat.le_of_ble_eq_true rfl) (Nat.le_of_ble_eq_true rfl) g (Nat.zero_le _) (Nat.zero_le _) rfl rfl rfl (b_Frames_fromLatest (by omega) h) (fun x1 M1 h => ?_)
  refine r_istore (kd133 rfl) L133 (by decide) rfl rfl ?_
  refine r_iload (kd133 rfl) rfl rfl ?_
  refine r_iconst (kd133 rfl) (y := (-1)) (by decide) rfl ?_
  refine r_icmp_ne (kd133 rfl) rfl (fun c => ?_) (fun c => ?_)
  · have h := h.1 c
    refine r_iload_n (kd133 rfl) rfl rfl ?_
    refine r_tableswitch (kd133 rfl) (u := 88) (qs := [(0, 56), (1, 64), (2, 72), (3, 80)]) rfl rfl rfl (by decide) ?_
    refine ⟨fun c => ?_, fun c => ?_⟩
    · have h := h.1 c
      refine r_aload_n (kd133 rfl) rfl rfl ?_
      obtain ⟨g, h⟩ := h
      refine r_get2 (kd133 rfl) (by decide) rfl g rfl ?_
      refine r_iload (kd133 rfl) rfl rfl ?_
      obtain ⟨g, h⟩ := h
      refine r_iaload (kd133 rfl) g rfl ?_
      exact r_ireturn (kd133 rfl) R133 h
    have h := h.2 c
    refine ⟨fun c => ?_, fun c => ?_⟩
    · have h := h.1 c
      refine r_aload_n (kd133 rfl) rfl rfl ?_
      obtain ⟨g, h⟩ := h
      refine r_get2 (kd133 rfl) (by decide) rfl g rfl ?_
      refine r_iload (kd133 rfl) rfl rfl ?_
      obtain ⟨g, h⟩ := h
      refine r_iaload (kd133 rfl) g rfl ?_
      exact r_ireturn (kd133 rfl) R133 h
    have h := h.2 c
    refine ⟨fun c => ?_, fun c => ?_⟩
    · have h := h.1 c
      refine r_aload_n (kd133 rfl) rfl rfl ?_
      obtain ⟨g, h⟩ := h
      refine r_get2 (kd133 rfl) (by decide) rfl g rfl ?_
      refine r_iload (kd133 rfl) rfl rfl ?_
      obtain ⟨g, h⟩ := h
      refine r_iaload (kd133 rfl) g rfl ?_
      exact r_ireturn (kd133 rfl) R133 h
    have h := h.2 c
    refine ⟨fun c => ?_, fun c => ?_⟩
    · have h := h.1 c
      refine r_aload_n (kd133 rfl) rfl rfl ?_
      obtain ⟨g, h⟩ := h
      refine r_get2 (kd133 rfl) (by decide) rfl g rfl ?_
      refine r_iload (kd133 rfl) rfl rfl ?_
      obtain ⟨g, h⟩ := h
      refine r_iaload (kd133 rfl) g rfl ?_
      exact r_ireturn (kd133 rfl) R133 h
    have h := h.2 c
    show e_E 133 _ _ _ 88 _ _ _ _
    refine r_iconst (kd133 rfl) (y := (-1)) (by decide) rfl ?_
    exact r_ireturn (kd133 rfl) R133 h
  · have h := h.2 c
    refine r_iconst (kd133 rfl) (y := (-1)) (by decide) rfl ?_
    exact r_ireturn (kd133 rfl) R133 h
/-- TierMill.seenSlot(II)I -/
theorem kd136 {pc : Nat} {q : eI} (h : e_d136.lookup pc = some q) : e_dec 136 pc = some q := h
theorem L136 : (e_m 136).2.2.1 = 5 := rfl
theorem R136 : (e_m 136).2.2.2.1 = (some .int) := rfl
def w_Mill_seenSlot_64 (M : eM) (Q : Int32 → eM → Prop) : Prop := Q ((-1) : Int32) M
theorem b_Mill_seenSlot_64 {d : Nat} {M : eM} {Q : Int32 → eM → Prop} (hd : 3 ≤ d) (h : w_Mill_seenSlot_64 M Q ) : e_E 136 d 0 0 64 [] [] M (e_QI Q) := by
  unfold w_Mill_seenSlot_64 at h
  refine r_iconst (kd136 rfl) (y := (-1)) (by decide) rfl ?_
  exact r_ireturn (kd136 rfl) R136 h
def w_Mill_seenSlot (l0 : Nat) (l1 : Int32) (l2 : Int32) (M : eM) (Q : Int32 → eM → Prop) : Prop := (¬ l1 = (-1) → e_ob M l0 11 ∧ e_ob M (gr M l0 3) 4 ∧ e_ob M l0 11 ∧ e_ob M (gr M l0 5) 6 ∧ e_ob M (gr M (gr M l0 3) 0) 2 ∧ e_ai M (gr M (gr M (gr M l0 3) 0) 1) l1 ∧ (e_ar M (gr M (gr M l0 5) 10) 23 (gi M (gr M (gr M (gr M l0 3) 0) 1) l1.toNatClampNeg) ∨ e_ar M (gr M (gr M l0 5) 10) 24 (gi M (gr M (gr M (gr M l0 3) 0) 1) l1.toNatClampNeg)) ∧ e_ob M (gr M (gr M (gr M l0 5) 10) (gi M (gr M (gr M (gr M l0 3) 0) 1) l1.toNatClampNeg).toNatClampNeg) 8 ∧ e_ob M (gr M (gr M l0 3) 0) 2 ∧ e_ai M (gr M (gr M (gr M l0 3) 0) 6) l1 ∧ w_Mill_slotNumber l2 (gi M (gr M (gr M (gr M l0 5) 10) (gi M (gr M (gr M (gr M l0 3) 0) 1) l1.toNatClampNeg).toNatClampNeg) 3) (gi M (gr M (gr M (gr M l0 3) 0) 6) l1.toNatClampNeg) M (fun (v2 : Int32) (M1 : eM) => (v2 = (-1) → w_Mill_seenSlot_64 M1 Q) ∧ (¬ v2 = (-1) → e_ob M1 l0 11 ∧ e_ob M1 (gr M (gr M l0 3) 0) 2 ∧ w_Frames_kindOf (gr M (gr M l0 3) 0) (gr M1 l0 5) l1 v2 M1 (fun (v4 : Int32) (M3 : eM) => (¬ v4 = 0 → Q v2 M3) ∧ (v4 = 0 → w_Mill_seenSlot_64 M3 Q))))) ∧ (l1 = (-1) → Q ((-1) : Int32) M)
theorem b_Mill_seenSlot {d : Nat} {l0 : Nat} {l1 : Int32} {l2 : Int32} {M : eM} {Q : Int32 → eM → Prop} (hd : 3 ≤ d) (h : w_Mill_seenSlot l0 l1 l2 M Q) : e_CI 136 d 0 0 [.ref l0, .int l1, .int l2] M Q := by
  unfold w_Mill_seenSlot at h
  show e_E 136 d 0 0 0 [(0, .ref l0), (1, .int l1), (2, .int l2)] [] M (e_QI Q)
  refine r_iload_n (kd136 rfl) rfl rfl ?_
  refine r_iconst (kd136 rfl) (y := (-1)) (by decide) rfl ?_
  refine r_icmp_ne (kd136 rfl) rfl (fun c => ?_) (fun c => ?_)
  · have h := h.1 c
    refine r_aload_n (kd136 rfl) rfl rfl ?_
    obtain ⟨g, h⟩ := h
    refine r_get2 (kd136 rfl) (by decide) rfl g rfl ?_
    obtain ⟨g, h⟩ := h
    refine r_get2 (kd136 rfl) (by decide) rfl g rfl ?_
    refine r_astore_n (kd136 rfl) L136 (by decide) rfl rfl ?_
    refine r_iload_n (kd136 rfl) rfl rfl ?_
    refine r_aload_n (kd136 rfl) rfl rfl ?_
    obtain ⟨g, h⟩ := h
    refine r_get2 (kd136 rfl) (by decide) rfl g rfl ?_
    obtain ⟨g, h⟩ := h
    refine r_get2 (kd136 rfl) (by decide) rfl g rfl ?_
    refine r_aload_n (kd136 rfl) rfl rfl ?_
    obtain ⟨g, h⟩ := h
    refine r_get2 (kd136 rfl) (by decide) rfl g rfl ?_
    refine r_iload_n (kd136 rfl) rfl rfl ?_
    obtain ⟨g, h⟩ := h
    refine r_iaload (kd136 rfl) g rfl ?_
    obtain ⟨g, h⟩ := h
    refine r_aaload (kd136 rfl) g rfl ?_
    obtain ⟨g, h⟩ := h
    refine r_get0 (kd136 rfl) (by decide) rfl g rfl ?_
    refine r_aload_n (kd136 rfl) rfl rfl ?_
    obtain ⟨g, h⟩ := h
    refine r_get2 (kd136 rfl) (by decide) rfl g rfl ?_
    refine r_iload_n (kd136 rfl) rfl rfl ?_
    obtain ⟨g, h⟩ := h
    refine r_iaload (kd136 rfl) g rfl ?_
    refine r_callSI (d' := d - 1) (by omega) (kd136 rfl) (by decide) rfl rfl rfl rfl (Nat.le_of_ble_eq_true rfl) rfl L124 (Nat.le_of_ble_eq_true rfl) (Nat.le_of_ble_eq_true rfl) (Nat.zero_le _) (Nat.zero_le _) rfl rfl rfl (b_Mill_slotNumber (by omega) h) (fun x1 M1 h => ?_)
    refine r_istore (kd136 rfl) L136 (by decide) rfl rfl ?_
    refine r_iload (kd136 rfl) rfl rfl ?_
    refine r_iconst (kd136 rfl) (y := (-1)) (by decide) rfl ?_
    refine r_icmp_eq (kd136 rfl) rfl (fun c => ?_) (fun c => ?_)
    · have h := h.1 c
      exact (b_Mill_seenSlot_64 hd h).less e_sn
    · have h := h.2 c
      refine r_aload_n (kd136 rfl) rfl rfl ?_
      refine r_aload_n (kd136 rfl) rfl rfl ?_
      obtain ⟨g, h⟩ := h
      refine r_get2 (kd136 rfl) (by decide) rfl g rfl ?_
      refine r_iload_n (kd136 rfl) rfl rfl ?_
      refine r_iload (kd136 rfl) rfl rfl ?_
      obtain ⟨g, h⟩ := h
      refine r_callVI (d' := d - 1) (by omega) (kd136 rfl) (by decide) rfl rfl rfl rfl (Nat.le_of_ble_eq_true rfl) rfl L21 (Nat.le_of_ble_eq_true rfl) (Nat.le_of_ble_eq_true rfl) g (Nat.zero_le _) (Nat.zero_le _) rfl rfl rfl (b_Frames_kindOf (by omega) h) (fun x1 M1 h => ?_)
      refine r_if_ne (kd136 rfl) rfl (fun c => ?_) (fun c => ?_)
      · have h := h.1 c
        refine r_iload (kd136 rfl) rfl rfl ?_
        exact r_ireturn (kd136 rfl) R136 h
      · have h := h.2 c
        exact (b_Mill_seenSlot_64 hd h).less e_sn
  · have h := h.2 c
    refine r_iconst (kd136 rfl) (y := (-1)) (by decide) rfl ?_
    exact r_ireturn (kd136 rfl) R136 h
/-- TierMill.local(II)I -/
theorem kd134 {pc : Nat} {q : eI} (h : e_d134.lookup pc = some q) : e_dec 134 pc = some q := h
theorem L134 : (e_m 134).2.2.1 = 6 := rfl
theorem R134 : (e_m 134).2.2.2.1 = (some .int) := rfl
def w_Mill_local_88 (kc ks : Nat) (s0 : Int32) (s1 : Int32) (s2 : Nat) (M : eM) (Q : Int32 → eM → Prop) (X : Nat → eM → Prop) : Prop := e_ob M s2 4 ∧ w_Machine_seen s2 s1 s0 M (fun (v8 : Int32) (M7 : eM) => Q v8 M7)
theorem b_Mill_local_88 {d : Nat} {kc ks : Nat} {s0 : Int32} {s1 : Int32} {s2 : Nat} {M : eM} {Q : Int32 → eM → Prop} {X : Nat → eM → Prop} (hd : 4 ≤ d) (h : w_Mill_local_88 kc ks s0 s1 s2 M Q X ) : e_E 134 d kc ks 88 [] [.int s0, .int s1, .ref s2] M (e_QX Q X) := by
  unfold w_Mill_local_88 at h
  obtain ⟨g, h⟩ := h
  refine r_callVI (d' := d - 1) (by omega) (kd134 rfl) (by decide) rfl rfl rfl rfl (Nat.le_of_ble_eq_true rfl) rfl L39 (Nat.le_of_ble_eq_true rfl) (Nat.le_of_ble_eq_true rfl) g (Nat.zero_le _) (Nat.zero_le _) rfl rfl rfl (b_Machine_seen (by omega) h) (fun x1 M1 h => ?_)
  exact r_ireturnX (kd134 rfl) R134 h
def w_Mill_local (kc ks : Nat) (l0 : Nat) (l1 : Int32) (l2 : Int32) (M : eM) (Q : Int32 → eM → Prop) (X : Nat → eM → Prop) : Prop := e_ob M l0 11 ∧ e_ob M (gr M l0 3) 4 ∧ e_ob M (gr M (gr M l0 3) 0) 2 ∧ w_Frames_fromLatest (gr M (gr M l0 3) 0) l1 M (fun (v2 : Int32) (M1 : eM) => e_ob M1 l0 11 ∧ w_Mill_seenSlot l0 v2 l2 M1 (fun (v4 : Int32) (M3 : eM) => (¬ v4 = (-1) → e_ob M3 l0 11 ∧ e_ob M3 (gr M3 l0 3) 4 ∧ e_ob M3 (gr M3 (gr M3 l0 3) 0) 2 ∧ e_ai M3 (gr M3 (gr M3 (gr M3 l0 3) 0) 7) ((v2 * 16) + v4) ∧ e_ob M3 l0 11 ∧ e_ob M3 l0 11 ∧ e_ob M3 (gr M3 l0 3) 4 ∧ e_ob M3 l0 11 ∧ e_ob M3 (gr M3 (gr M3 l0 3) 0) 2 ∧ w_Frames_kindOf (gr M3 (gr M3 l0 3) 0) (gr M3 l0 5) v2 v4 M3 (fun (v6 : Int32) (M5 : eM) => (¬ v6 = 1 → w_Mill_local_88 kc ks 0 (gi M3 (gr M3 (gr M3 (gr M3 l0 3) 0) 7) ((v2 * 16) + v4).toNatClampNeg) (gr M3 l0 3) M5 Q X) ∧ (v6 = 1 → w_Mill_local_88 kc ks 1 (gi M3 (gr M3 (gr M3 (gr M3 l0 3) 0) 7) ((v2 * 16) + v4).toNatClampNeg) (gr M3 l0 3) M5 Q X))) ∧ (v4 = (-1) → 1 ≤ kc ∧ 6 ≤ ks ∧ X 94 M3)))
theorem b_Mill_local {d : Nat} {kc ks : Nat} {l0 : Nat} {l1 : Int32} {l2 : Int32} {M : eM} {Q : Int32 → eM → Prop} {X : Nat → eM → Prop} (hd : 4 ≤ d) (h : w_Mill_local kc ks l0 l1 l2 M Q X) : e_C 134 d kc ks [.ref l0, .int l1, .int l2] M (e_QX Q X) := by
  unfold w_Mill_local at h
  show e_E 134 d kc ks 0 [(0, .ref l0), (1, .int l1), (2, .int l2)] [] M (e_QX Q X)
  refine r_aload_n (kd134 rfl) rfl rfl ?_
  obtain ⟨g, h⟩ := h
  refine r_get2 (kd134 rfl) (by decide) rfl g rfl ?_
  obtain ⟨g, h⟩ := h
  refine r_get2 (kd134 rfl) (by decide) rfl g rfl ?_
  refine r_iload_n (kd134 rfl) rfl rfl ?_
  obtain ⟨g, h⟩ := h
  refine r_callVI (d' := d - 1) (by omega) (kd134 rfl) (by decide) rfl rfl rfl rfl (Nat.le_of_ble_eq_true rfl) rfl L11 (Nat.le_of_ble_eq_true rfl) (Nat.le_of_ble_eq_true rfl) g (Nat.zero_le _) (Nat.zero_le _) rfl rfl rfl (b_Frames_fromLatest (by omega) h) (fun x1 M1 h => ?_)
  refine r_istore_n (kd134 rfl) L134 (by decide) rfl rfl ?_
  refine r_aload_n (kd134 rfl) rfl rfl ?_
  refine r_iload_n (kd134 rfl) rfl rfl ?_
  refine r_iload_n (kd134 rfl) rfl rfl ?_
  obtain ⟨g, h⟩ := h
  refine r_callVI (d' := d - 1) (by omega) (kd134 rfl) (by decide) rfl rfl rfl rfl (Nat.le_of_ble_eq_true rfl) rfl L136 (Nat.le_of_ble_eq_true rfl) (Nat.le_of_ble_eq_true rfl) g (Nat.zero_le _) (Nat.zero_le _) rfl rfl rfl (b_Mill_seenSlot (by omega) h) (fun x1 M1 h => ?_)
  refine r_istore (kd134 rfl) L134 (by decide) rfl rfl ?_
  refine r_iload (kd134 rfl) rfl rfl ?_
  refine r_iconst (kd134 rfl) (y := (-1)) (by decide) rfl ?_
  refine r_icmp_ne (kd134 rfl) rfl (fun c => ?_) (fun c => ?_)
  · have h := h.1 c
    refine r_aload_n (kd134 rfl) rfl rfl ?_
    obtain ⟨g, h⟩ := h
    refine r_get2 (kd134 rfl) (by decide) rfl g rfl ?_
    obtain ⟨g, h⟩ := h
    refine r_get2 (kd134 rfl) (by decide) rfl g rfl ?_
    obtain ⟨g, h⟩ := h
    refine r_get2 (kd134 rfl) (by decide) rfl g rfl ?_
    refine r_iload_n (kd134 rfl) rfl rfl ?_
    refine r_bipush (kd134 rfl) (y := 16) (by decide) rfl ?_
    refine r_imul (kd134 rfl) rfl ?_
    refine r_iload (kd134 rfl) rfl rfl ?_
    refine r_iadd (kd134 rfl) rfl ?_
    obtain ⟨g, h⟩ := h
    refine r_iaload (kd134 rfl) g rfl ?_
    refine r_istore (kd134 rfl) L134 (by decide) rfl rfl ?_
    refine r_aload_n (kd134 rfl) rfl rfl ?_
    obtain ⟨g, h⟩ := h
    refine r_get2 (kd134 rfl) (by decide) rfl g rfl ?_
    refine r_iload (kd134 rfl) rfl rfl ?_
    refine r_aload_n (kd134 rfl) rfl rfl ?_
    obtain ⟨g, h⟩ := h
    refine r_get2 (kd134 rfl) (by decide) rfl g rfl ?_
    obtain ⟨g, h⟩ := h
    refine r_get2 (kd134 rfl) (by decide) rfl g rfl ?_
    refine r_aload_n (kd134 rfl) rfl rfl ?_
    obtain ⟨g, h⟩ := h
    refine r_get2 (kd134 rfl) (by decide) rfl g rfl ?_
    refine r_iload_n (kd134 rfl) rfl rfl ?_
    refine r_iload (kd134 rfl) rfl rfl ?_
    obtain ⟨g, h⟩ := h
    refine r_callVI (d' := d - 1) (by omega) (kd134 rfl) (by decide) rfl rfl rfl rfl (Nat.le_of_ble_eq_true rfl) rfl L21 (Nat.le_of_ble_eq_true rfl) (Nat.le_of_ble_eq_true rfl) g (Nat.zero_le _) (Nat.zero_le _) rfl rfl rfl (b_Frames_kindOf (by omega) h) (fun x1 M1 h => ?_)
    refine r_iconst (kd134 rfl) (y := 1) (by decide) rfl ?_
    refine r_icmp_ne (kd134 rfl) rfl (fun c => ?_) (fun c => ?_)
    · have h := h.1 c
      refine r_iconst (kd134 rfl) (y := 0) (by decide) rfl ?_
      exact (b_Mill_local_88 hd h).less e_sn
    · have h := h.2 c
      refine r_iconst (kd134 rfl) (y := 1) (by decide) rfl ?_
      refine r_goto (kd134 rfl) ?_
      exact (b_Mill_local_88 hd h).less e_sn
  · have h := h.2 c
    exact r_throw (kd134 rfl) (by decide) (by decide) h.1 h.2.1 (Or.inr ⟨_, rfl, h.2.2⟩)
/-- TierMill.part(III)I -/
theorem kd135 {pc : Nat} {q : eI} (h : e_d135.lookup pc = some q) : e_dec 135 pc = some q := h
theorem L135 : (e_m 135).2.2.1 = 10 := rfl
theorem R135 : (e_m 135).2.2.2.1 = (some .int) := rfl
def w_Mill_part_50 (kc ks : Nat) (M : eM) (Q : Int32 → eM → Prop) (X : Nat → eM → Prop) : Prop := 1 ≤ kc ∧ 6 ≤ ks ∧ X 94 M
theorem b_Mill_part_50 {d : Nat} {kc ks : Nat} {M : eM} {Q : Int32 → eM → Prop} {X : Nat → eM → Prop} (hd : 4 ≤ d) (h : w_Mill_part_50 kc ks M Q X ) : e_E 135 d kc ks 50 [] [] M (e_QX Q X) := by
  unfold w_Mill_part_50 at h
  exact r_throw (kd135 rfl) (by decide) (by decide) h.1 h.2.1 (Or.inr ⟨_, rfl, h.2.2⟩)
def w_Mill_part_140 (kc ks : Nat) (M : eM) (Q : Int32 → eM → Prop) (X : Nat → eM → Prop) : Prop := 1 ≤ kc ∧ 6 ≤ ks ∧ X 94 M
theorem b_Mill_part_140 {d : Nat} {kc ks : Nat} {M : eM} {Q : Int32 → eM → Prop} {X : Nat → eM → Prop} (hd : 4 ≤ d) (h : w_Mill_part_140 kc ks M Q X ) : e_E 135 d kc ks 140 [] [] M (e_QX Q X) := by
  unfold w_Mill_part_140 at h
  exact r_throw (kd135 rfl) (by decide) (by decide) h.1 h.2.1 (Or.inr ⟨_, rfl, h.2.2⟩)
def w_Mill_part_227 (kc ks : Nat) (s0 : Int32) (s1 : Int32) (s2 : Nat) (M : eM) (Q : Int32 → eM → Prop) (X : Nat → eM → Prop) : Prop := e_ob M s2 4 ∧ w_Machine_seen s2 s1 s0 M (fun (v14 : Int32) (M13 : eM) => Q v14 M13)
theorem b_Mill_part_227 {d : Nat} {kc ks : Nat} {s0 : Int32} {s1 : Int32} {s2 : Nat} {M : eM} {Q : Int32 → eM → Prop} {X : Nat → eM → Prop} (hd : 4 ≤ d) (h : w_Mill_part_227 kc ks s0 s1 s2 M Q X ) : e_E 135 d kc ks 227 [] [.int s0, .int s1, .ref s2] M (e_QX Q X) := by
  unfold w_Mill_part_227 at h
  obtain ⟨g, h⟩ := h
  refine r_callVI (d' := d - 1) (by omega) (kd135 rfl) (by decide) rfl rfl rfl rfl (Nat.le_of_ble_eq_true rfl) rfl L39 (Nat.le_of_ble_eq_true rfl) (Nat.le_of_ble_eq_true rfl) g (Nat.zero_le _) (Nat.zero_le _) rfl rfl rfl (b_Machine_seen (by omega) h) (fun x1 M1 h => ?_)
  exact r_ireturnX (kd135 rfl) R135 h
def w_Mill_part_222 (kc ks : Nat) (s0 : Int32) (s1 : Nat) (M : eM) (Q : Int32 → eM → Prop) (X : Nat → eM → Prop) : Prop := w_Mill_part_227 kc ks 1 s0 s1 M Q X
theorem b_Mill_part_222 {d : Nat} {kc ks : Nat} {s0 : Int32} {s1 : Nat} {M : eM} {Q : Int32 → eM → Prop} {X : Nat → eM → Prop} (hd : 4 ≤ d) (h : w_Mill_part_222 kc ks s0 s1 M Q X ) : e_E 135 d kc ks 222 [] [.int s0, .ref s1] M (e_QX Q X) := by
  unfold w_Mill_part_222 at h
  refine r_iconst (kd135 rfl) (y := 1) (by decide) rfl ?_
  refine r_goto (kd135 rfl) ?_
  exact (b_Mill_part_227 hd h).less e_sn
def w_Mill_part (kc ks : Nat) (l0 : Nat) (l1 : Int32) (l2 : Int32) (l3 : Int32) (M : eM) (Q : Int32 → eM → Prop) (X : Nat → eM → Prop) : Prop := e_ob M l0 11 ∧ e_ob M (gr M l0 3) 4 ∧ e_ob M (gr M (gr M l0 3) 0) 2 ∧ w_Frames_fromLatest (gr M (gr M l0 3) 0) l1 M (fun (v2 : Int32) (M1 : eM) => e_ob M1 l0 11 ∧ w_Mill_seenSlot l0 v2 l2 M1 (fun (v4 : Int32) (M3 : eM) => (v4 = (-1) → w_Mill_part_50 kc ks M3 Q X) ∧ (¬ v4 = (-1) → e_ob M3 l0 11 ∧ e_ob M3 (gr M3 l0 3) 4 ∧ e_ob M3 l0 11 ∧ e_ob M3 (gr M3 (gr M3 l0 3) 0) 2 ∧ w_Frames_kindOf (gr M3 (gr M3 l0 3) 0) (gr M3 l0 5) v2 v4 M3 (fun (v6 : Int32) (M5 : eM) => (¬ v6 = 1 → e_ob M5 l0 11 ∧ e_ob M5 (gr M5 l0 3) 4 ∧ e_ob M5 (gr M5 (gr M5 l0 3) 0) 2 ∧ e_ai M5 (gr M5 (gr M5 (gr M5 l0 3) 0) 7) ((v2 * 16) + v4) ∧ (¬ (gi M5 (gr M5 (gr M5 (gr M5 l0 3) 0) 7) ((v2 * 16) + v4).toNatClampNeg) = 0 → e_ob M5 l0 11 ∧ e_ob M5 (gr M5 l0 3) 4 ∧ e_ob M5 (gr M5 (gr M5 l0 3) 1) 3 ∧ w_Heap_tagOf (gr M5 (gr M5 l0 3) 1) (gi M5 (gr M5 (gr M5 (gr M5 l0 3) 0) 7) ((v2 * 16) + v4).toNatClampNeg) M5 (fun (v8 : Int32) (M7 : eM) => e_ob M7 l0 11 ∧ e_ob M7 (gr M7 l0 3) 4 ∧ e_ob M7 l0 11 ∧ e_ob M7 (gr M7 (gr M7 l0 3) 1) 3 ∧ w_Heap_partsOf (gr M7 (gr M7 l0 3) 1) (gr M7 l0 5) v8 M7 (fun (v10 : Int32) (M9 : eM) => (l3 < 0 → w_Mill_part_140 kc ks M9 Q X) ∧ (¬ l3 < 0 → ((l3 - 2) < v10 → (¬ l3 = 0 → (¬ l3 = 1 → e_ob M9 l0 11 ∧ e_ob M9 (gr M9 l0 3) 4 ∧ e_ob M9 (gr M9 (gr M9 l0 3) 1) 3 ∧ w_Heap_partOf (gr M9 (gr M9 l0 3) 1) (gi M5 (gr M5 (gr M5 (gr M5 l0 3) 0) 7) ((v2 * 16) + v4).toNatClampNeg) (l3 - 2) M9 (fun (v12 : Int32) (M11 : eM) => e_ob M11 l0 11 ∧ (16 ≤ v8 → w_Mill_part_222 kc ks v12 (gr M11 l0 3) M11 Q X) ∧ (¬ 16 ≤ v8 → e_ob M11 l0 11 ∧ e_ob M11 (gr M11 l0 5) 6 ∧ e_ai M11 (gr M11 (gr M11 l0 5) 6) (((v8 * 8) + l3) - 2) ∧ (¬ (gi M11 (gr M11 (gr M11 l0 5) 6) (((v8 * 8) + l3) - 2).toNatClampNeg) = 1 → w_Mill_part_227 kc ks 0 v12 (gr M11 l0 3) M11 Q X) ∧ ((gi M11 (gr M11 (gr M11 l0 5) 6) (((v8 * 8) + l3) - 2).toNatClampNeg) = 1 → w_Mill_part_222 kc ks v12 (gr M11 l0 3) M11 Q X)))) ∧ (l3 = 1 → Q v10 M9)) ∧ (l3 = 0 → Q (if 16 < v8 then 16 else v8) M9)) ∧ (¬ (l3 - 2) < v10 → w_Mill_part_140 kc ks M9 Q X))))) ∧ ((gi M5 (gr M5 (gr M5 (gr M5 l0 3) 0) 7) ((v2 * 16) + v4).toNatClampNeg) = 0 → 1 ≤ kc ∧ 6 ≤ ks ∧ X 94 M5)) ∧ (v6 = 1 → w_Mill_part_50 kc ks M5 Q X)))))
theorem b_Mill_part {d : Nat} {kc ks : Nat} {l0 : Nat} {l1 : Int32} {l2 : Int32} {l3 : Int32} {M : eM} {Q : Int32 → eM → Prop} {X : Nat → eM → Prop} (hd : 4 ≤ d) (h : w_Mill_part kc ks l0 l1 l2 l3 M Q X) : e_C 135 d kc ks [.ref l0, .int l1, .int l2, .int l3] M (e_QX Q X) := by
  unfold w_Mill_part at h
  show e_E 135 d kc ks 0 [(0, .ref l0), (1, .int l1), (2, .int l2), (3, .int l3)] [] M (e_QX Q X)
  refine r_aload_n (kd135 rfl) rfl rfl ?_
  obtain ⟨g, h⟩ := h
  refine r_get2 (kd135 rfl) (by decide) rfl g rfl ?_
  obtain ⟨g, h⟩ := h
  refine r_get2 (kd135 rfl) (by decide) rfl g rfl ?_
  refine r_iload_n (kd135 rfl) rfl rfl ?_
  obtain ⟨g, h⟩ := h
  refine r_callVI (d' := d - 1) (by omega) (kd135 rfl) (by decide) rfl rfl rfl rfl (Nat.le_of_ble_eq_true rfl) rfl L11 (Nat.le_of_ble_eq_true rfl) (Nat.le_of_ble_eq_true rfl) g (Nat.zero_le _) (Nat.zero_le _) rfl rfl rfl (b_Frames_fromLatest (by omega) h) (fun x1 M1 h => ?_)
  refine r_istore (kd135 rfl) L135 (by decide) rfl rfl ?_
  refine r_aload_n (kd135 rfl) rfl rfl ?_
  refine r_iload (kd135 rfl) rfl rfl ?_
  refine r_iload_n (kd135 rfl) rfl rfl ?_
  obtain ⟨g, h⟩ := h
  refine r_callVI (d' := d - 1) (by omega) (kd135 rfl) (by decide) rfl rfl rfl rfl (Nat.le_of_ble_eq_true rfl) rfl L136 (Nat.le_of_ble_eq_true rfl) (Nat.le_of_ble_eq_true rfl) g (Nat.zero_le _) (Nat.zero_le _) rfl rfl rfl (b_Mill_seenSlot (by omega) h) (fun x1 M1 h => ?_)
  refine r_istore (kd135 rfl) L135 (by decide) rfl rfl ?_
  refine r_iload (kd135 rfl) rfl rfl ?_
  refine r_iconst (kd135 rfl) (y := (-1)) (by decide) rfl ?_
  refine r_icmp_eq (kd135 rfl) rfl (fun c => ?_) (fun c => ?_)
  · have h := h.1 c
    exact (b_Mill_part_50 hd h).less e_sn
  · have h := h.2 c
    refine r_aload_n (kd135 rfl) rfl rfl ?_
    obtain ⟨g, h⟩ := h
    refine r_get2 (kd135 rfl) (by decide) rfl g rfl ?_
    obtain ⟨g, h⟩ := h
    refine r_get2 (kd135 rfl) (by decide) rfl g rfl ?_
    refine r_aload_n (kd135 rfl) rfl rfl ?_
    obtain ⟨g, h⟩ := h
    refine r_get2 (kd135 rfl) (by decide) rfl g rfl ?_
    refine r_iload (kd135 rfl) rfl rfl ?_
    refine r_iload (kd135 rfl) rfl rfl ?_
    obtain ⟨g, h⟩ := h
    refine r_callVI (d' := d - 1) (by omega) (kd135 rfl) (by decide) rfl rfl rfl rfl (Nat.le_of_ble_eq_true rfl) rfl L21 (Nat.le_of_ble_eq_true rfl) (Nat.le_of_ble_eq_true rfl) g (Nat.zero_le _) (Nat.zero_le _) rfl rfl rfl (b_Frames_kindOf (by omega) h) (fun x1 M1 h => ?_)
    refine r_iconst (kd135 rfl) (y := 1) (by decide) rfl ?_
    refine r_icmp_ne (kd135 rfl) rfl (fun c => ?_) (fun c => ?_)
    · have h := h.1 c
      refine r_aload_n (kd135 rfl) rfl rfl ?_
      obtain ⟨g, h⟩ := h
      refine r_get2 (kd135 rfl) (by decide) rfl g rfl ?_
      obtain ⟨g, h⟩ := h
      refine r_get2 (kd135 rfl) (by decide) rfl g rfl ?_
      obtain ⟨g, h⟩ := h
      refine r_get2 (kd135 rfl) (by decide) rfl g rfl ?_
      refine r_iload (kd135 rfl) rfl rfl ?_
      refine r_bipush (kd135 rfl) (y := 16) (by decide) rfl ?_
      refine r_imul (kd135 rfl) rfl ?_
      refine r_iload (kd135 rfl) rfl rfl ?_
      refine r_iadd (kd135 rfl) rfl ?_
      obtain ⟨g, h⟩ := h
      refine r_iaload (kd135 rfl) g rfl ?_
      refine r_istore (kd135 rfl) L135 (by decide) rfl rfl ?_
      refine r_iload (kd135 rfl) rfl rfl ?_
      refine r_if_ne (kd135 rfl) rfl (fun c => ?_) (fun c => ?_)
      · have h := h.1 c
        refine r_aload_n (kd135 rfl) rfl rfl ?_
        obtain ⟨g, h⟩ := h
        refine r_get2 (kd135 rfl) (by decide) rfl g rfl ?_
        obtain ⟨g, h⟩ := h
        refine r_get2 (kd135 rfl) (by decide) rfl g rfl ?_
        refine r_iload (kd135 rfl) rfl rfl ?_
        obtain ⟨g, h⟩ := h
        refine r_callVI (d' := d - 1) (by omega) (kd135 rfl) (by decide) rfl rfl rfl rfl (Nat.le_of_ble_eq_true rfl) rfl L26 (Nat.le_of_ble_eq_true rfl) (Nat.le_of_ble_eq_true rfl) g (Nat.zero_le _) (Nat.zero_le _) rfl rfl rfl (b_Heap_tagOf (by omega) h) (fun x1 M1 h => ?_)
        refine r_istore (kd135 rfl) L135 (by decide) rfl rfl ?_
        refine r_aload_n (kd135 rfl) rfl rfl ?_
        obtain ⟨g, h⟩ := h
        refine r_get2 (kd135 rfl) (by decide) rfl g rfl ?_
        obtain ⟨g, h⟩ := h
        refine r_get2 (kd135 rfl) (by decide) rfl g rfl ?_
        refine r_aload_n (kd135 rfl) rfl rfl ?_
        obtain ⟨g, h⟩ := h
        refine r_get2 (kd135 rfl) (by decide) rfl g rfl ?_
        refine r_iload (kd135 rfl) rfl rfl ?_
        obtain ⟨g, h⟩ := h
        refine r_callVI (d' := d - 1) (by omega) (kd135 rfl) (by decide) rfl rfl rfl rfl (Nat.le_of_ble_eq_true rfl) rfl L27 (Nat.le_of_ble_eq_true rfl) (Nat.le_of_ble_eq_true rfl) g (Nat.zero_le _) (Nat.zero_le _) rfl rfl rfl (b_Heap_partsOf (by omega) h) (fun x1 M1 h => ?_)
        refine r_istore (kd135 rfl) L135 (by decide) rfl rfl ?_
        refine r_iload_n (kd135 rfl) rfl rfl ?_
        refine r_if_lt (kd135 rfl) rfl (fun c => ?_) (fun c => ?_)
        · have h := h.1 c
          exact (b_Mill_part_140 hd h).less e_sn
        · have h := h.2 c
          refine r_iload_n (kd135 rfl) rfl rfl ?_
          refine r_iconst (kd135 rfl) (y := 2) (by decide) rfl ?_
          refine r_isub (kd135 rfl) rfl ?_
          refine r_iload (kd135 rfl) rfl rfl ?_
          refine r_icmp_lt (kd135 rfl) rfl (fun c => ?_) (fun c => ?_)
          · have h := h.1 c
            refine r_iload_n (kd135 rfl) rfl rfl ?_
            refine r_if_ne (kd135 rfl) rfl (fun c => ?_) (fun c => ?_)
            · have h := h.1 c
              refine r_iload_n (kd135 rfl) rfl rfl ?_
              refine r_iconst (kd135 rfl) (y := 1) (by decide) rfl ?_
              refine r_icmp_ne (kd135 rfl) rfl (fun c => ?_) (fun c => ?_)
              · have h := h.1 c
                refine r_aload_n (kd135 rfl) rfl rfl ?_
                obtain ⟨g, h⟩ := h
                refine r_get2 (kd135 rfl) (by decide) rfl g rfl ?_
                obtain ⟨g, h⟩ := h
                refine r_get2 (kd135 rfl) (by decide) rfl g rfl ?_
                refine r_iload (kd135 rfl) rfl rfl ?_
                refine r_iload_n (kd135 rfl) rfl rfl ?_
                refine r_iconst (kd135 rfl) (y := 2) (by decide) rfl ?_
                refine r_isub (kd135 rfl) rfl ?_
                obtain ⟨g, h⟩ := h
                refine r_callVI (d' := d - 1) (by omega) (kd135 rfl) (by decide) rfl rfl rfl rfl (Nat.le_of_ble_eq_true rfl) rfl L28 (Nat.le_of_ble_eq_true rfl) (Nat.le_of_ble_eq_true rfl) g (Nat.zero_le _) (Nat.zero_le _) rfl rfl rfl (b_Heap_partOf (by omega) h) (fun x1 M1 h => ?_)
                refine r_istore (kd135 rfl) L135 (by decide) rfl rfl ?_
                refine r_aload_n (kd135 rfl) rfl rfl ?_
                obtain ⟨g, h⟩ := h
                refine r_get2 (kd135 rfl) (by decide) rfl g rfl ?_
                refine r_iload (kd135 rfl) rfl rfl ?_
                refine r_iload (kd135 rfl) rfl rfl ?_
                refine r_bipush (kd135 rfl) (y := 16) (by decide) rfl ?_
                refine r_icmp_ge (kd135 rfl) rfl (fun c => ?_) (fun c => ?_)
                · have h := h.1 c
                  exact (b_Mill_part_222 hd h).less e_sn
                · have h := h.2 c
                  refine r_aload_n (kd135 rfl) rfl rfl ?_
                  obtain ⟨g, h⟩ := h
                  refine r_get2 (kd135 rfl) (by decide) rfl g rfl ?_
                  obtain ⟨g, h⟩ := h
                  refine r_get2 (kd135 rfl) (by decide) rfl g rfl ?_
                  refine r_iload (kd135 rfl) rfl rfl ?_
                  refine r_bipush (kd135 rfl) (y := 8) (by decide) rfl ?_
                  refine r_imul (kd135 rfl) rfl ?_
                  refine r_iload_n (kd135 rfl) rfl rfl ?_
                  refine r_iadd (kd135 rfl) rfl ?_
                  refine r_iconst (kd135 rfl) (y := 2) (by decide) rfl ?_
                  refine r_isub (kd135 rfl) rfl ?_
                  obtain ⟨g, h⟩ := h
                  refine r_iaload (kd135 rfl) g rfl ?_
                  refine r_iconst (kd135 rfl) (y := 1) (by decide) rfl ?_
                  refine r_icmp_ne (kd135 rfl) rfl (fun c => ?_) (fun c => ?_)
                  · have h := h.1 c
                    refine r_iconst (kd135 rfl) (y := 0) (by decide) rfl ?_
                    exact (b_Mill_part_227 hd h).less e_sn
                  · have h := h.2 c
                    exact (b_Mill_part_222 hd h).less e_sn
              · have h := h.2 c
                refine r_iload (kd135 rfl) rfl rfl ?_
                exact r_ireturnX (kd135 rfl) R135 h
            · have h := h.2 c
              refine r_iload (kd135 rfl) rfl rfl ?_
              refine r_bipush (kd135 rfl) (y := 16) (by decide) rfl ?_
              refine r_mmin (kd135 rfl) (Nat.le_of_ble_eq_true rfl) rfl ?_
              exact r_ireturnX (kd135 rfl) R135 h
          · have h := h.2 c
            exact (b_Mill_part_140 hd h).less e_sn
      · have h := h.2 c
        exact r_throw (kd135 rfl) (by decide) (by decide) h.1 h.2.1 (Or.inr ⟨_, rfl, h.2.2⟩)
    · have h := h.2 c
      exact (b_Mill_part_50 hd h).less e_sn
/-- TierMill.method(II)I -/
theorem kd137 {pc : Nat} {q : eI} (h : e_d137.lookup pc = some q) : e_dec 137 pc = some q := h
theorem L137 : (e_m 137).2.2.1 = 4 := rfl
theorem R137 : (e_m 137).2.2.2.1 = (some .int) := rfl
def w_Mill_method_22 (M : eM) (Q : Int32 → eM → Prop) : Prop := Q ((-1) : Int32) M
theorem b_Mill_method_22 {d : Nat} {M : eM} {Q : Int32 → eM → Prop} (hd : 2 ≤ d) (h : w_Mill_method_22 M Q ) : e_E 137 d 0 0 22 [] [] M (e_QI Q) := by
  unfold w_Mill_method_22 at h
  refine r_iconst (kd137 rfl) (y := (-1)) (by decide) rfl ?_
  exact r_ireturn (kd137 rfl) R137 h
def w_Mill_method_86 (s0 : Int32) (M : eM) (Q : Int32 → eM → Prop) : Prop := Q s0 M
theorem b_Mill_method_86 {d : Nat} {s0 : Int32} {M : eM} {Q : Int32 → eM → Prop} (hd : 2 ≤ d) (h : w_Mill_method_86 s0 M Q ) : e_E 137 d 0 0 86 [] [.int s0] M (e_QI Q) := by
  unfold w_Mill_method_86 at h
  exact r_ireturn (kd137 rfl) R137 h
def w_Mill_method_99 (s0 : Int32) (M : eM) (Q : Int32 → eM → Prop) : Prop := Q s0 M
theorem b_Mill_method_99 {d : Nat} {s0 : Int32} {M : eM} {Q : Int32 → eM → Prop} (hd : 2 ≤ d) (h : w_Mill_method_99 s0 M Q ) : e_E 137 d 0 0 99 [] [.int s0] M (e_QI Q) := by
  unfold w_Mill_method_99 at h
  exact r_ireturn (kd137 rfl) R137 h
def w_Mill_method (l0 : Nat) (l1 : Int32) (l2 : Int32) (M : eM) (Q : Int32 → eM → Prop) : Prop := e_ob M l0 11 ∧ ((gi M l0 4) = 0 → w_Mill_method_22 M Q) ∧ (¬ (gi M l0 4) = 0 → (l1 < 0 → w_Mill_method_22 M Q) ∧ (¬ l1 < 0 → e_ob M l0 11 ∧ e_ob M (gr M l0 5) 6 ∧ (l1 < (gi M (gr M l0 5) 9) → e_ob M l0 11 ∧ e_ob M (gr M l0 3) 4 ∧ e_ob M (gr M (gr M l0 3) 2) 9 ∧ w_Tiers_planOfMethod (gr M (gr M l0 3) 2) l1 M (fun (v2 : Nat) (M1 : eM) => (l2 = 0 → e_ob M1 l0 11 ∧ e_ob M1 (gr M1 l0 3) 4 ∧ e_ob M1 (gr M1 (gr M1 l0 3) 2) 9 ∧ e_ai M1 (gr M1 (gr M1 (gr M1 l0 3) 2) 4) l1 ∧ Q (gi M1 (gr M1 (gr M1 (gr M1 l0 3) 2) 4) l1.toNatClampNeg) M1) ∧ (¬ l2 = 0 → (l2 = 1 → (¬ v2 = 0 → w_Mill_method_86 1 M1 Q) ∧ (v2 = 0 → w_Mill_method_86 0 M1 Q)) ∧ (¬ l2 = 1 → (l2 = 2 → (¬ v2 = 0 → e_ob M1 v2 5 ∧ w_Mill_method_99 (gi M1 v2 0) M1 Q) ∧ (v2 = 0 → w_Mill_method_99 0 M1 Q)) ∧ (¬ l2 = 2 → Q ((-1) : Int32) M1))))) ∧ (¬ l1 < (gi M (gr M l0 5) 9) → w_Mill_method_22 M Q)))
theorem b_Mill_method {d : Nat} {l0 : Nat} {l1 : Int32} {l2 : Int32} {M : eM} {Q : Int32 → eM → Prop} (hd : 2 ≤ d) (h : w_Mill_method l0 l1 l2 M Q) : e_CI 137 d 0 0 [.ref l0, .int l1, .int l2] M Q := by
  unfold w_Mill_method at h
  show e_E 137 d 0 0 0 [(0, .ref l0), (1, .int l1), (2, .int l2)] [] M (e_QI Q)
  refine r_aload_n (kd137 rfl) rfl rfl ?_
  obtain ⟨g, h⟩ := h
  refine r_get3 (kd137 rfl) (by decide) rfl g rfl ?_
  refine r_if_eq (kd137 rfl) rfl (fun c => ?_) (fun c => ?_)
  · have h := h.1 c
    exact (b_Mill_method_22 hd h).less e_sn
  · have h := h.2 c
    refine r_iload_n (kd137 rfl) rfl rfl ?_
    refine r_if_lt (kd137 rfl) rfl (fun c => ?_) (fun c => ?_)
    · have h := h.1 c
      exact (b_Mill_method_22 hd h).less e_sn
    · have h := h.2 c
      refine r_iload_n (kd137 rfl) rfl rfl ?_
      refine r_aload_n (kd137 rfl) rfl rfl ?_
      obtain ⟨g, h⟩ := h
      refine r_get2 (kd137 rfl) (by decide) rfl g rfl ?_
      obtain ⟨g, h⟩ := h
      refine r_get0 (kd137 rfl) (by decide) rfl g rfl ?_
      refine r_icmp_lt (kd137 rfl) rfl (fun c => ?_) (fun c => ?_)
      · have h := h.1 c
        refine r_aload_n (kd137 rfl) rfl rfl ?_
        obtain ⟨g, h⟩ := h
        refine r_get2 (kd137 rfl) (by decide) rfl g rfl ?_
        obtain ⟨g, h⟩ := h
        refine r_get2 (kd137 rfl) (by decide) rfl g rfl ?_
        refine r_iload_n (kd137 rfl) rfl rfl ?_
        obtain ⟨g, h⟩ := h
        refine r_callVR (d' := d - 1) (by omega) (kd137 rfl) (by decide) rfl rfl rfl rfl (Nat.le_of_ble_eq_true rfl) rfl L86 (Nat.le_of_ble_eq_true rfl) (Nat.le_of_ble_eq_true rfl) g (Nat.zero_le _) (Nat.zero_le _) rfl rfl rfl (b_Tiers_planOfMethod (by omega) h) (fun x1 M1 h => ?_)
        refine r_astore_n (kd137 rfl) L137 (by decide) rfl rfl ?_
        refine r_iload_n (kd137 rfl) rfl rfl ?_
        refine r_tableswitch (kd137 rfl) (u := 100) (qs := [(0, 64), (1, 77), (2, 87)]) rfl rfl rfl (by decide) ?_
        refine ⟨fun c => ?_, fun c => ?_⟩
        · have h := h.1 c
          refine r_aload_n (kd137 rfl) rfl rfl ?_
          obtain ⟨g, h⟩ := h
          refine r_get2 (kd137 rfl) (by decide) rfl g rfl ?_
          obtain ⟨g, h⟩ := h
          refine r_get2 (kd137 rfl) (by decide) rfl g rfl ?_
          obtain ⟨g, h⟩ := h
          refine r_get2 (kd137 rfl) (by decide) rfl g rfl ?_
          refine r_iload_n (kd137 rfl) rfl rfl ?_
          obtain ⟨g, h⟩ := h
          refine r_iaload (kd137 rfl) g rfl ?_
          exact r_ireturn (kd137 rfl) R137 h
        have h := h.2 c
        refine ⟨fun c => ?_, fun c => ?_⟩
        · have h := h.1 c
          refine r_aload_n (kd137 rfl) rfl rfl ?_
          refine r_ifnonnull (kd137 rfl) rfl (fun c => ?_) (fun c => ?_)
          · have h := h.1 c
            refine r_iconst (kd137 rfl) (y := 1) (by decide) rfl ?_
            exact (b_Mill_method_86 hd h).less e_sn
          · have h := h.2 c
            refine r_iconst (kd137 rfl) (y := 0) (by decide) rfl ?_
            refine r_goto (kd137 rfl) ?_
            exact (b_Mill_method_86 hd h).less e_sn
        have h := h.2 c
        refine ⟨fun c => ?_, fun c => ?_⟩
        · have h := h.1 c
          refine r_aload_n (kd137 rfl) rfl rfl ?_
          refine r_ifnonnull (kd137 rfl) rfl (fun c => ?_) (fun c => ?_)
          · have h := h.1 c
            refine r_aload_n (kd137 rfl) rfl rfl ?_
            obtain ⟨g, h⟩ := h
            refine r_get0 (kd137 rfl) (by decide) rfl g rfl ?_
            exact (b_Mill_method_99 hd h).less e_sn
          · have h := h.2 c
            refine r_iconst (kd137 rfl) (y := 0) (by decide) rfl ?_
            refine r_goto (kd137 rfl) ?_
            exact (b_Mill_method_99 hd h).less e_sn
        have h := h.2 c
        show e_E 137 _ _ _ 100 _ _ _ _
        refine r_iconst (kd137 rfl) (y := (-1)) (by decide) rfl ?_
        exact r_ireturn (kd137 rfl) R137 h
      · have h := h.2 c
        exact (b_Mill_method_22 hd h).less e_sn
/-- TierMill.inlined(III)I -/
theorem kd138 {pc : Nat} {q : eI} (h : e_d138.lookup pc = some q) : e_dec 138 pc = some q := h
theorem L138 : (e_m 138).2.2.1 = 5 := rfl
theorem R138 : (e_m 138).2.2.2.1 = (some .int) := rfl
def w_Mill_inlined_31 (M : eM) (Q : Int32 → eM → Prop) : Prop := Q ((-1) : Int32) M
theorem b_Mill_inlined_31 {d : Nat} {M : eM} {Q : Int32 → eM → Prop} (hd : 2 ≤ d) (h : w_Mill_inlined_31 M Q ) : e_E 138 d 0 0 31 [] [] M (e_QI Q) := by
  unfold w_Mill_inlined_31 at h
  refine r_iconst (kd138 rfl) (y := (-1)) (by decide) rfl ?_
  exact r_ireturn (kd138 rfl) R138 h
def w_Mill_inlined_64 (M : eM) (Q : Int32 → eM → Prop) : Prop := Q ((-1) : Int32) M
theorem b_Mill_inlined_64 {d : Nat} {M : eM} {Q : Int32 → eM → Prop} (hd : 2 ≤ d) (h : w_Mill_inlined_64 M Q ) : e_E 138 d 0 0 64 [] [] M (e_QI Q) := by
  unfold w_Mill_inlined_64 at h
  refine r_iconst (kd138 rfl) (y := (-1)) (by decide) rfl ?_
  exact r_ireturn (kd138 rfl) R138 h
def w_Mill_inlined (l0 : Nat) (l1 : Int32) (l2 : Int32) (l3 : Int32) (M : eM) (Q : Int32 → eM → Prop) : Prop := e_ob M l0 11 ∧ ((gi M l0 4) = 0 → w_Mill_inlined_31 M Q) ∧ (¬ (gi M l0 4) = 0 → (l1 < 0 → w_Mill_inlined_31 M Q) ∧ (¬ l1 < 0 → e_ob M l0 11 ∧ e_ob M (gr M l0 5) 6 ∧ ((gi M (gr M l0 5) 9) ≤ l1 → w_Mill_inlined_31 M Q) ∧ (¬ (gi M (gr M l0 5) 9) ≤ l1 → (l3 < 0 → w_Mill_inlined_31 M Q) ∧ (¬ l3 < 0 → (l3 ≤ 4 → e_ob M l0 11 ∧ e_ob M (gr M l0 3) 4 ∧ e_ob M (gr M (gr M l0 3) 2) 9 ∧ w_Tiers_planOfMethod (gr M (gr M l0 3) 2) l1 M (fun (v2 : Nat) (M1 : eM) => (v2 = 0 → w_Mill_inlined_64 M1 Q) ∧ (¬ v2 = 0 → (l2 < 0 → w_Mill_inlined_64 M1 Q) ∧ (¬ l2 < 0 → e_ob M1 v2 5 ∧ (l2 < (gi M1 v2 0) → e_ob M1 v2 5 ∧ e_ai M1 (gr M1 v2 2) ((l2 * 6) + l3) ∧ Q (gi M1 (gr M1 v2 2) ((l2 * 6) + l3).toNatClampNeg) M1) ∧ (¬ l2 < (gi M1 v2 0) → w_Mill_inlined_64 M1 Q))))) ∧ (¬ l3 ≤ 4 → w_Mill_inlined_31 M Q)))))
theorem b_Mill_inlined {d : Nat} {l0 : Nat} {l1 : Int32} {l2 : Int32} {l3 : Int32} {M : eM} {Q : Int32 → eM → Prop} (hd : 2 ≤ d) (h : w_Mill_inlined l0 l1 l2 l3 M Q) : e_CI 138 d 0 0 [.ref l0, .int l1, .int l2, .int l3] M Q := by
  unfold w_Mill_inlined at h
  show e_E 138 d 0 0 0 [(0, .ref l0), (1, .int l1), (2, .int l2), (3, .int l3)] [] M (e_QI Q)
  refine r_aload_n (kd138 rfl) rfl rfl ?_
  obtain ⟨g, h⟩ := h
  refine r_get3 (kd138 rfl) (by decide) rfl g rfl ?_
  refine r_if_eq (kd138 rfl) rfl (fun c => ?_) (fun c => ?_)
  · have h := h.1 c
    exact (b_Mill_inlined_31 hd h).less e_sn
  · have h := h.2 c
    refine r_iload_n (kd138 rfl) rfl rfl ?_
    refine r_if_lt (kd138 rfl) rfl (fun c => ?_) (fun c => ?_)
    · have h := h.1 c
      exact (b_Mill_inlined_31 hd h).less e_sn
    · have h := h.2 c
      refine r_iload_n (kd138 rfl) rfl rfl ?_
      refine r_aload_n (kd138 rfl) rfl rfl ?_
      obtain ⟨g, h⟩ := h
      refine r_get2 (kd138 rfl) (by decide) rfl g rfl ?_
      obtain ⟨g, h⟩ := h
      refine r_get0 (kd138 rfl) (by decide) rfl g rfl ?_
      refine r_icmp_ge (kd138 rfl) rfl (fun c => ?_) (fun c => ?_)
      · have h := h.1 c
        exact (b_Mill_inlined_31 hd h).less e_sn
      · have h := h.2 c
        refine r_iload_n (kd138 rfl) rfl rfl ?_
        refine r_if_lt (kd138 rfl) rfl (fun c => ?_) (fun c => ?_)
        · have h := h.1 c
          exact (b_Mill_inlined_31 hd h).less e_sn
        · have h := h.2 c
          refine r_iload_n (kd138 rfl) rfl rfl ?_
          refine r_iconst (kd138 rfl) (y := 4) (by decide) rfl ?_
          refine r_icmp_le (kd138 rfl) rfl (fun c => ?_) (fun c => ?_)
          · have h := h.1 c
            refine r_aload_n (kd138 rfl) rfl rfl ?_
            obtain ⟨g, h⟩ := h
            refine r_get2 (kd138 rfl) (by decide) rfl g rfl ?_
            obtain ⟨g, h⟩ := h
            refine r_get2 (kd138 rfl) (by decide) rfl g rfl ?_
            refine r_iload_n (kd138 rfl) rfl rfl ?_
            obtain ⟨g, h⟩ := h
            refine r_callVR (d' := d - 1) (by omega) (kd138 rfl) (by decide) rfl rfl rfl rfl (Nat.le_of_ble_eq_true rfl) rfl L86 (Nat.le_of_ble_eq_true rfl) (Nat.le_of_ble_eq_true rfl) g (Nat.zero_le _) (Nat.zero_le _) rfl rfl rfl (b_Tiers_planOfMethod (by omega) h) (fun x1 M1 h => ?_)
            refine r_astore (kd138 rfl) L138 (by decide) rfl rfl ?_
            refine r_aload (kd138 rfl) rfl rfl ?_
            refine r_ifnull (kd138 rfl) rfl (fun c => ?_) (fun c => ?_)
            · have h := h.1 c
              exact (b_Mill_inlined_64 hd h).less e_sn
            · have h := h.2 c
              refine r_iload_n (kd138 rfl) rfl rfl ?_
              refine r_if_lt (kd138 rfl) rfl (fun c => ?_) (fun c => ?_)
              · have h := h.1 c
                exact (b_Mill_inlined_64 hd h).less e_sn
              · have h := h.2 c
                refine r_iload_n (kd138 rfl) rfl rfl ?_
                refine r_aload (kd138 rfl) rfl rfl ?_
                obtain ⟨g, h⟩ := h
                refine r_get0 (kd138 rfl) (by decide) rfl g rfl ?_
                refine r_icmp_lt (kd138 rfl) rfl (fun c => ?_) (fun c => ?_)
                · have h := h.1 c
                  refine r_aload (kd138 rfl) rfl rfl ?_
                  obtain ⟨g, h⟩ := h
                  refine r_get2 (kd138 rfl) (by decide) rfl g rfl ?_
                  refine r_iload_n (kd138 rfl) rfl rfl ?_
                  refine r_bipush (kd138 rfl) (y := 6) (by decide) rfl ?_
                  refine r_imul (kd138 rfl) rfl ?_
                  refine r_iload_n (kd138 rfl) rfl rfl ?_
                  refine r_iadd (kd138 rfl) rfl ?_
                  obtain ⟨g, h⟩ := h
                  refine r_iaload (kd138 rfl) g rfl ?_
                  exact r_ireturn (kd138 rfl) R138 h
                · have h := h.2 c
                  exact (b_Mill_inlined_64 hd h).less e_sn
          · have h := h.2 c
            exact (b_Mill_inlined_31 hd h).less e_sn
/-- TierMill.profile(III)I -/
theorem kd139 {pc : Nat} {q : eI} (h : e_d139.lookup pc = some q) : e_dec 139 pc = some q := h
theorem L139 : (e_m 139).2.2.1 = 7 := rfl
theorem R139 : (e_m 139).2.2.2.1 = (some .int) := rfl
def w_Mill_profile_22 (M : eM) (Q : Int32 → eM → Prop) : Prop := Q ((-1) : Int32) M
theorem b_Mill_profile_22 {d : Nat} {M : eM} {Q : Int32 → eM → Prop} (hd : 1 ≤ d) (h : w_Mill_profile_22 M Q ) : e_E 139 d 0 0 22 [] [] M (e_QI Q) := by
  unfold w_Mill_profile_22 at h
  refine r_iconst (kd139 rfl) (y := (-1)) (by decide) rfl ?_
  exact r_ireturn (kd139 rfl) R139 h
def w_Mill_profile_120 (s0 : Int32) (M : eM) (Q : Int32 → eM → Prop) : Prop := Q s0 M
theorem b_Mill_profile_120 {d : Nat} {s0 : Int32} {M : eM} {Q : Int32 → eM → Prop} (hd : 1 ≤ d) (h : w_Mill_profile_120 s0 M Q ) : e_E 139 d 0 0 120 [] [.int s0] M (e_QI Q) := by
  unfold w_Mill_profile_120 at h
  exact r_ireturn (kd139 rfl) R139 h
def w_Mill_profile_98 (M : eM) (Q : Int32 → eM → Prop) : Prop := w_Mill_profile_120 (-1) M Q
theorem b_Mill_profile_98 {d : Nat} {M : eM} {Q : Int32 → eM → Prop} (hd : 1 ≤ d) (h : w_Mill_profile_98 M Q ) : e_E 139 d 0 0 98 [] [] M (e_QI Q) := by
  unfold w_Mill_profile_98 at h
  refine r_iconst (kd139 rfl) (y := (-1)) (by decide) rfl ?_
  refine r_goto (kd139 rfl) ?_
  exact (b_Mill_profile_120 hd h).less e_sn
def w_Mill_profile_86 (l0 : Nat) (l3 : Int32) (l5 : Int32) (s0 : Int32) (M : eM) (Q : Int32 → eM → Prop) : Prop := (l3 < 0 → w_Mill_profile_98 M Q) ∧ (¬ l3 < 0 → (l3 < s0 → e_ob M l0 11 ∧ e_ob M (gr M l0 3) 4 ∧ e_ob M (gr M (gr M l0 3) 2) 9 ∧ e_ai M (gr M (gr M (gr M l0 3) 2) 5) ((l5 * 8) + l3) ∧ w_Mill_profile_120 (gi M (gr M (gr M (gr M l0 3) 2) 5) ((l5 * 8) + l3).toNatClampNeg) M Q) ∧ (¬ l3 < s0 → w_Mill_profile_98 M Q))
theorem b_Mill_profile_86 {d : Nat} {l0 : Nat} {l3 : Int32} {l5 : Int32} {s0 : Int32} {M : eM} {Q : Int32 → eM → Prop} (hd : 1 ≤ d) (h : w_Mill_profile_86 l0 l3 l5 s0 M Q ) : e_E 139 d 0 0 86 [(0, .ref l0), (3, .int l3), (5, .int l5)] [.int s0] M (e_QI Q) := by
  unfold w_Mill_profile_86 at h
  refine r_istore (kd139 rfl) L139 (by decide) rfl rfl ?_
  refine r_iload_n (kd139 rfl) rfl rfl ?_
  refine r_if_lt (kd139 rfl) rfl (fun c => ?_) (fun c => ?_)
  · have h := h.1 c
    exact (b_Mill_profile_98 hd h).less e_sn
  · have h := h.2 c
    refine r_iload_n (kd139 rfl) rfl rfl ?_
    refine r_iload (kd139 rfl) rfl rfl ?_
    refine r_icmp_lt (kd139 rfl) rfl (fun c => ?_) (fun c => ?_)
    · have h := h.1 c
      refine r_aload_n (kd139 rfl) rfl rfl ?_
      obtain ⟨g, h⟩ := h
      refine r_get2 (kd139 rfl) (by decide) rfl g rfl ?_
      obtain ⟨g, h⟩ := h
      refine r_get2 (kd139 rfl) (by decide) rfl g rfl ?_
      obtain ⟨g, h⟩ := h
      refine r_get2 (kd139 rfl) (by decide) rfl g rfl ?_
      refine r_iload (kd139 rfl) rfl rfl ?_
      refine r_bipush (kd139 rfl) (y := 8) (by decide) rfl ?_
      refine r_imul (kd139 rfl) rfl ?_
      refine r_iload_n (kd139 rfl) rfl rfl ?_
      refine r_iadd (kd139 rfl) rfl ?_
      obtain ⟨g, h⟩ := h
      refine r_iaload (kd139 rfl) g rfl ?_
      exact (b_Mill_profile_120 hd h).less e_sn
    · have h := h.2 c
      exact (b_Mill_profile_98 hd h).less e_sn
def w_Mill_profile (l0 : Nat) (l1 : Int32) (l2 : Int32) (l3 : Int32) (M : eM) (Q : Int32 → eM → Prop) : Prop := e_ob M l0 11 ∧ e_ob M (gr M l0 3) 4 ∧ ((gi M (gr M l0 3) 6) = 0 → w_Mill_profile_22 M Q) ∧ (¬ (gi M (gr M l0 3) 6) = 0 → e_ob M l0 11 ∧ e_ob M (gr M l0 5) 6 ∧ w_Program_begins (gr M l0 5) l1 l2 M (fun (v2 : Int32) (M1 : eM) => (¬ v2 = 0 → e_ob M1 l0 11 ∧ e_ob M1 (gr M1 l0 5) 6 ∧ (e_ar M1 (gr M1 (gr M1 l0 5) 10) 23 l1 ∨ e_ar M1 (gr M1 (gr M1 l0 5) 10) 24 l1) ∧ e_ob M1 (gr M1 (gr M1 (gr M1 l0 5) 10) l1.toNatClampNeg) 8 ∧ e_ob M1 l0 11 ∧ e_ob M1 (gr M1 l0 5) 6 ∧ e_ai M1 (gr M1 (gr M1 l0 5) 13) ((gi M1 (gr M1 (gr M1 (gr M1 l0 5) 10) l1.toNatClampNeg) 5) + l2) ∧ (¬ (gi M1 (gr M1 (gr M1 l0 5) 13) ((gi M1 (gr M1 (gr M1 (gr M1 l0 5) 10) l1.toNatClampNeg) 5) + l2).toNatClampNeg) = (-1) → e_ob M1 l0 11 ∧ e_ob M1 (gr M1 l0 5) 6 ∧ e_ai M1 (gr M1 (gr M1 l0 5) 0) ((gi M1 (gr M1 (gr M1 (gr M1 l0 5) 10) l1.toNatClampNeg) 5) + l2) ∧ (¬ (gi M1 (gr M1 (gr M1 l0 5) 0) ((gi M1 (gr M1 (gr M1 (gr M1 l0 5) 10) l1.toNatClampNeg) 5) + l2).toNatClampNeg) = 47 → e_ob M1 l0 11 ∧ e_ob M1 (gr M1 l0 5) 6 ∧ w_Mill_profile_86 l0 l3 (gi M1 (gr M1 (gr M1 l0 5) 13) ((gi M1 (gr M1 (gr M1 (gr M1 l0 5) 10) l1.toNatClampNeg) 5) + l2).toNatClampNeg) (gi M1 (gr M1 l0 5) 2) M1 Q) ∧ ((gi M1 (gr M1 (gr M1 l0 5) 0) ((gi M1 (gr M1 (gr M1 (gr M1 l0 5) 10) l1.toNatClampNeg) 5) + l2).toNatClampNeg) = 47 → w_Mill_profile_86 l0 l3 (gi M1 (gr M1 (gr M1 l0 5) 13) ((gi M1 (gr M1 (gr M1 (gr M1 l0 5) 10) l1.toNatClampNeg) 5) + l2).toNatClampNeg) 1 M1 Q)) ∧ ((gi M1 (gr M1 (gr M1 l0 5) 13) ((gi M1 (gr M1 (gr M1 (gr M1 l0 5) 10) l1.toNatClampNeg) 5) + l2).toNatClampNeg) = (-1) → Q ((-1) : Int32) M1)) ∧ (v2 = 0 → w_Mill_profile_22 M1 Q)))
theorem b_Mill_profile {d : Nat} {l0 : Nat} {l1 : Int32} {l2 : Int32} {l3 : Int32} {M : eM} {Q : Int32 → eM → Prop} (hd : 1 ≤ d) (h : w_Mill_profile l0 l1 l2 l3 M Q) : e_CI 139 d 0 0 [.ref l0, .int l1, .int l2, .int l3] M Q := by
  unfold w_Mill_profile at h
  show e_E 139 d 0 0 0 [(0, .ref l0), (1, .int l1), (2, .int l2), (3, .int l3)] [] M (e_QI Q)
  refine r_aload_n (kd139 rfl) rfl rfl ?_
  obtain ⟨g, h⟩ := h
  refine r_get2 (kd139 rfl) (by decide) rfl g rfl ?_
  obtain ⟨g, h⟩ := h
  refine r_get0 (kd139 rfl) (by decide) rfl g rfl ?_
  refine r_if_eq (kd139 rfl) rfl (fun c => ?_) (fun c => ?_)
  · have h := h.1 c
    exact (b_Mill_profile_22 hd h).less e_sn
  · have h := h.2 c
    refine r_aload_n (kd139 rfl) rfl rfl ?_
    obtain ⟨g, h⟩ := h
    refine r_get2 (kd139 rfl) (by decide) rfl g rfl ?_
    refine r_iload_n (kd139 rfl) rfl rfl ?_
    refine r_iload_n (kd139 rfl) rfl rfl ?_
    obtain ⟨g, h⟩ := h
    refine r_callVI (d' := d - 1) (by omega) (kd139 rfl) (by decide) rfl rfl rfl rfl (Nat.le_of_ble_eq_true rfl) rfl L67 (Nat.le_of_ble_eq_true rfl) (Nat.le_of_ble_eq_true rfl) g (Nat.zero_le _) (Nat.zero_le _) rfl rfl rfl (b_Program_begins (by omega) h) (fun x1 M1 h => ?_)
    refine r_if_ne (kd139 rfl) rfl (fun c => ?_) (fun c => ?_)
    · have h := h.1 c
      refine r_aload_n (kd139 rfl) rfl rfl ?_
      obtain ⟨g, h⟩ := h
      refine r_get2 (kd139 rfl) (by decide) rfl g rfl ?_
      obtain ⟨g, h⟩ := h
      refine r_get2 (kd139 rfl) (by decide) rfl g rfl ?_
      refine r_iload_n (kd139 rfl) rfl rfl ?_
      obtain ⟨g, h⟩ := h
      refine r_aaload (kd139 rfl) g rfl ?_
      obtain ⟨g, h⟩ := h
      refine r_get0 (kd139 rfl) (by decide) rfl g rfl ?_
      refine r_iload_n (kd139 rfl) rfl rfl ?_
      refine r_iadd (kd139 rfl) rfl ?_
      refine r_istore (kd139 rfl) L139 (by decide) rfl rfl ?_
      refine r_aload_n (kd139 rfl) rfl rfl ?_
      obtain ⟨g, h⟩ := h
      refine r_get2 (kd139 rfl) (by decide) rfl g rfl ?_
      obtain ⟨g, h⟩ := h
      refine r_get2 (kd139 rfl) (by decide) rfl g rfl ?_
      refine r_iload (kd139 rfl) rfl rfl ?_
      obtain ⟨g, h⟩ := h
      refine r_iaload (kd139 rfl) g rfl ?_
      refine r_istore (kd139 rfl) L139 (by decide) rfl rfl ?_
      refine r_iload (kd139 rfl) rfl rfl ?_
      refine r_iconst (kd139 rfl) (y := (-1)) (by decide) rfl ?_
      refine r_icmp_ne (kd139 rfl) rfl (fun c => ?_) (fun c => ?_)
      · have h := h.1 c
        refine r_aload_n (kd139 rfl) rfl rfl ?_
        obtain ⟨g, h⟩ := h
        refine r_get2 (kd139 rfl) (by decide) rfl g rfl ?_
        obtain ⟨g, h⟩ := h
        refine r_get2 (kd139 rfl) (by decide) rfl g rfl ?_
        refine r_iload (kd139 rfl) rfl rfl ?_
        obtain ⟨g, h⟩ := h
        refine r_iaload (kd139 rfl) g rfl ?_
        refine r_bipush (kd139 rfl) (y := 47) (by decide) rfl ?_
        refine r_icmp_ne (kd139 rfl) rfl (fun c => ?_) (fun c => ?_)
        · have h := h.1 c
          refine r_aload_n (kd139 rfl) rfl rfl ?_
          obtain ⟨g, h⟩ := h
          refine r_get2 (kd139 rfl) (by decide) rfl g rfl ?_
          obtain ⟨g, h⟩ := h
          refine r_get0 (kd139 rfl) (by decide) rfl g rfl ?_
          exact (b_Mill_profile_86 hd h).less (e_sc (List.mem_of_getElem? (i := 2) rfl) (e_sc (List.mem_of_getElem? (i := 5) rfl) (e_sc (List.mem_of_getElem? (i := 0) rfl) e_sn)))
        · have h := h.2 c
          refine r_iconst (kd139 rfl) (y := 1) (by decide) rfl ?_
          refine r_goto (kd139 rfl) ?_
          exact (b_Mill_profile_86 hd h).less (e_sc (List.mem_of_getElem? (i := 2) rfl) (e_sc (List.mem_of_getElem? (i := 5) rfl) (e_sc (List.mem_of_getElem? (i := 0) rfl) e_sn)))
      · have h := h.2 c
        refine r_iconst (kd139 rfl) (y := (-1)) (by decide) rfl ?_
        exact r_ireturn (kd139 rfl) R139 h
    · have h := h.2 c
      exact (b_Mill_profile_22 hd h).less e_sn
/-- TierMill.log(II)I -/
theorem kd140 {pc : Nat} {q : eI} (h : e_d140.lookup pc = some q) : e_dec 140 pc = some q := h
theorem L140 : (e_m 140).2.2.1 = 4 := rfl
theorem R140 : (e_m 140).2.2.2.1 = (some .int) := rfl
def w_Mill_log_29 (M : eM) (Q : Int32 → eM → Prop) : Prop := Q ((-1) : Int32) M
theorem b_Mill_log_29 {d : Nat} {M : eM} {Q : Int32 → eM → Prop} (hd : 0 ≤ d) (h : w_Mill_log_29 M Q ) : e_E 140 d 0 0 29 [] [] M (e_QI Q) := by
  unfold w_Mill_log_29 at h
  refine r_iconst (kd140 rfl) (y := (-1)) (by decide) rfl ?_
  exact r_ireturn (kd140 rfl) R140 h
def w_Mill_log (l0 : Nat) (l1 : Int32) (l2 : Int32) (M : eM) (Q : Int32 → eM → Prop) : Prop := e_ob M l0 11 ∧ e_ob M (gr M l0 3) 4 ∧ (l1 < 0 → w_Mill_log_29 M Q) ∧ (¬ l1 < 0 → e_ob M (gr M (gr M l0 3) 3) 1 ∧ ((gi M (gr M (gr M l0 3) 3) 0) ≤ l1 → w_Mill_log_29 M Q) ∧ (¬ (gi M (gr M (gr M l0 3) 3) 0) ≤ l1 → (l2 < 0 → w_Mill_log_29 M Q) ∧ (¬ l2 < 0 → (l2 < 5 → e_ob M (gr M (gr M l0 3) 3) 1 ∧ e_ai M (gr M (gr M (gr M l0 3) 3) 1) ((l1 * 5) + l2) ∧ Q (gi M (gr M (gr M (gr M l0 3) 3) 1) ((l1 * 5) + l2).toNatClampNeg) M) ∧ (¬ l2 < 5 → w_Mill_log_29 M Q))))
theorem b_Mill_log {d : Nat} {l0 : Nat} {l1 : Int32} {l2 : Int32} {M : eM} {Q : Int32 → eM → Prop} (hd : 0 ≤ d) (h : w_Mill_log l0 l1 l2 M Q) : e_CI 140 d 0 0 [.ref l0, .int l1, .int l2] M Q := by
  unfold w_Mill_log at h
  show e_E 140 d 0 0 0 [(0, .ref l0), (1, .int l1), (2, .int l2)] [] M (e_QI Q)
  refine r_aload_n (kd140 rfl) rfl rfl ?_
  obtain ⟨g, h⟩ := h
  refine r_get2 (kd140 rfl) (by decide) rfl g rfl ?_
  obtain ⟨g, h⟩ := h
  refine r_get2 (kd140 rfl) (by decide) rfl g rfl ?_
  refine r_astore_n (kd140 rfl) L140 (by decide) rfl rfl ?_
  refine r_iload_n (kd140 rfl) rfl rfl ?_
  refine r_if_lt (kd140 rfl) rfl (fun c => ?_) (fun c => ?_)
  · have h := h.1 c
    exact (b_Mill_log_29 hd h).less e_sn
  · have h := h.2 c
    refine r_iload_n (kd140 rfl) rfl rfl ?_
    refine r_aload_n (kd140 rfl) rfl rfl ?_
    obtain ⟨g, h⟩ := h
    refine r_get0 (kd140 rfl) (by decide) rfl g rfl ?_
    refine r_icmp_ge (kd140 rfl) rfl (fun c => ?_) (fun c => ?_)
    · have h := h.1 c
      exact (b_Mill_log_29 hd h).less e_sn
    · have h := h.2 c
      refine r_iload_n (kd140 rfl) rfl rfl ?_
      refine r_if_lt (kd140 rfl) rfl (fun c => ?_) (fun c => ?_)
      · have h := h.1 c
        exact (b_Mill_log_29 hd h).less e_sn
      · have h := h.2 c
        refine r_iload_n (kd140 rfl) rfl rfl ?_
        refine r_iconst (kd140 rfl) (y := 5) (by decide) rfl ?_
        refine r_icmp_lt (kd140 rfl) rfl (fun c => ?_) (fun c => ?_)
        · have h := h.1 c
          refine r_aload_n (kd140 rfl) rfl rfl ?_
          obtain ⟨g, h⟩ := h
          refine r_get2 (kd140 rfl) (by decide) rfl g rfl ?_
          refine r_iload_n (kd140 rfl) rfl rfl ?_
          refine r_iconst (kd140 rfl) (y := 5) (by decide) rfl ?_
          refine r_imul (kd140 rfl) rfl ?_
          refine r_iload_n (kd140 rfl) rfl rfl ?_
          refine r_iadd (kd140 rfl) rfl ?_
          obtain ⟨g, h⟩ := h
          refine r_iaload (kd140 rfl) g rfl ?_
          exact r_ireturn (kd140 rfl) R140 h
        · have h := h.2 c
          exact (b_Mill_log_29 hd h).less e_sn
/-- TierMill.total(I)I -/
theorem kd141 {pc : Nat} {q : eI} (h : e_d141.lookup pc = some q) : e_dec 141 pc = some q := h
theorem L141 : (e_m 141).2.2.1 = 2 := rfl
theorem R141 : (e_m 141).2.2.2.1 = (some .int) := rfl
def w_Mill_total (l0 : Nat) (l1 : Int32) (M : eM) (Q : Int32 → eM → Prop) : Prop := (l1 = 0 → e_ob M l0 11 ∧ e_ob M (gr M l0 3) 4 ∧ Q (gi M (gr M l0 3) 9) M) ∧ (¬ l1 = 0 → (l1 = 1 → e_ob M l0 11 ∧ e_ob M (gr M l0 3) 4 ∧ Q (gi M (gr M l0 3) 10) M) ∧ (¬ l1 = 1 → (l1 = 2 → e_ob M l0 11 ∧ e_ob M (gr M l0 3) 4 ∧ Q (gi M (gr M l0 3) 5) M) ∧ (¬ l1 = 2 → (l1 = 3 → e_ob M l0 11 ∧ e_ob M (gr M l0 3) 4 ∧ e_ob M (gr M (gr M l0 3) 0) 2 ∧ Q (gi M (gr M (gr M l0 3) 0) 0) M) ∧ (¬ l1 = 3 → (l1 = 4 → e_ob M l0 11 ∧ e_ob M (gr M l0 3) 4 ∧ e_ob M (gr M (gr M l0 3) 3) 1 ∧ Q (gi M (gr M (gr M l0 3) 3) 0) M) ∧ (¬ l1 = 4 → (l1 = 5 → e_ob M l0 11 ∧ e_ob M (gr M l0 3) 4 ∧ e_ob M (gr M (gr M l0 3) 1) 3 ∧ Q (gi M (gr M (gr M l0 3) 1) 1) M) ∧ (¬ l1 = 5 → (l1 = 6 → e_ob M l0 11 ∧ e_ob M (gr M l0 3) 4 ∧ e_ob M (gr M (gr M l0 3) 1) 3 ∧ Q (gi M (gr M (gr M l0 3) 1) 2) M) ∧ (¬ l1 = 6 → (l1 = 7 → e_ob M l0 11 ∧ e_ob M (gr M l0 3) 4 ∧ e_ob M (gr M (gr M l0 3) 2) 9 ∧ Q (gi M (gr M (gr M l0 3) 2) 7) M) ∧ (¬ l1 = 7 → (l1 = 8 → e_ob M l0 11 ∧ e_ob M (gr M l0 3) 4 ∧ Q (gi M (gr M l0 3) 11) M) ∧ (¬ l1 = 8 → (l1 = 9 → e_ob M l0 11 ∧ e_ob M (gr M l0 3) 4 ∧ e_ob M (gr M (gr M l0 3) 1) 3 ∧ Q (gi M (gr M (gr M l0 3) 1) 0) M) ∧ (¬ l1 = 9 → Q ((-1) : Int32) M))))))))))
theorem b_Mill_total {d : Nat} {l0 : Nat} {l1 : Int32} {M : eM} {Q : Int32 → eM → Prop} (hd : 0 ≤ d) (h : w_Mill_total l0 l1 M Q) : e_CI 141 d 0 0 [.ref l0, .int l1] M Q := by
  unfold w_Mill_total at h
  show e_E 141 d 0 0 0 [(0, .ref l0), (1, .int l1)] [] M (e_QI Q)
  refine r_iload_n (kd141 rfl) rfl rfl ?_
  refine r_tableswitch (kd141 rfl) (u := 154) (qs := [(0, 56), (1, 64), (2, 72), (3, 80), (4, 91), (5, 102), (6, 113), (7, 124), (8, 135), (9, 143)]) rfl rfl rfl (by decide) ?_
  refine ⟨fun c => ?_, fun c => ?_⟩
  · have h := h.1 c
    refine r_aload_n (kd141 rfl) rfl rfl ?_
    obtain ⟨g, h⟩ := h
    refine r_get2 (kd141 rfl) (by decide) rfl g rfl ?_
    obtain ⟨g, h⟩ := h
    refine r_get0 (kd141 rfl) (by decide) rfl g rfl ?_
    exact r_ireturn (kd141 rfl) R141 h
  have h := h.2 c
  refine ⟨fun c => ?_, fun c => ?_⟩
  · have h := h.1 c
    refine r_aload_n (kd141 rfl) rfl rfl ?_
    obtain ⟨g, h⟩ := h
    refine r_get2 (kd141 rfl) (by decide) rfl g rfl ?_
    obtain ⟨g, h⟩ := h
    refine r_get0 (kd141 rfl) (by decide) rfl g rfl ?_
    exact r_ireturn (kd141 rfl) R141 h
  have h := h.2 c
  refine ⟨fun c => ?_, fun c => ?_⟩
  · have h := h.1 c
    refine r_aload_n (kd141 rfl) rfl rfl ?_
    obtain ⟨g, h⟩ := h
    refine r_get2 (kd141 rfl) (by decide) rfl g rfl ?_
    obtain ⟨g, h⟩ := h
    refine r_get0 (kd141 rfl) (by decide) rfl g rfl ?_
    exact r_ireturn (kd141 rfl) R141 h
  have h := h.2 c
  refine ⟨fun c => ?_, fun c => ?_⟩
  · have h := h.1 c
    refine r_aload_n (kd141 rfl) rfl rfl ?_
    obtain ⟨g, h⟩ := h
    refine r_get2 (kd141 rfl) (by decide) rfl g rfl ?_
    obtain ⟨g, h⟩ := h
    refine r_get2 (kd141 rfl) (by decide) rfl g rfl ?_
    obtain ⟨g, h⟩ := h
    refine r_get0 (kd141 rfl) (by decide) rfl g rfl ?_
    exact r_ireturn (kd141 rfl) R141 h
  have h := h.2 c
  refine ⟨fun c => ?_, fun c => ?_⟩
  · have h := h.1 c
    refine r_aload_n (kd141 rfl) rfl rfl ?_
    obtain ⟨g, h⟩ := h
    refine r_get2 (kd141 rfl) (by decide) rfl g rfl ?_
    obtain ⟨g, h⟩ := h
    refine r_get2 (kd141 rfl) (by decide) rfl g rfl ?_
    obtain ⟨g, h⟩ := h
    refine r_get0 (kd141 rfl) (by decide) rfl g rfl ?_
    exact r_ireturn (kd141 rfl) R141 h
  have h := h.2 c
  refine ⟨fun c => ?_, fun c => ?_⟩
  · have h := h.1 c
    refine r_aload_n (kd141 rfl) rfl rfl ?_
    obtain ⟨g, h⟩ := h
    refine r_get2 (kd141 rfl) (by decide) rfl g rfl ?_
    obtain ⟨g, h⟩ := h
    refine r_get2 (kd141 rfl) (by decide) rfl g rfl ?_
    obtain ⟨g, h⟩ := h
    refine r_get0 (kd141 rfl) (by decide) rfl g rfl ?_
    exact r_ireturn (kd141 rfl) R141 h
  have h := h.2 c
  refine ⟨fun c => ?_, fun c => ?_⟩
  · have h := h.1 c
    refine r_aload_n (kd141 rfl) rfl rfl ?_
    obtain ⟨g, h⟩ := h
    refine r_get2 (kd141 rfl) (by decide) rfl g rfl ?_
    obtain ⟨g, h⟩ := h
    refine r_get2 (kd141 rfl) (by decide) rfl g rfl ?_
    obtain ⟨g, h⟩ := h
    refine r_get0 (kd141 rfl) (by decide) rfl g rfl ?_
    exact r_ireturn (kd141 rfl) R141 h
  have h := h.2 c
  refine ⟨fun c => ?_, fun c => ?_⟩
  · have h := h.1 c
    refine r_aload_n (kd141 rfl) rfl rfl ?_
    obtain ⟨g, h⟩ := h
    refine r_get2 (kd141 rfl) (by decide) rfl g rfl ?_
    obtain ⟨g, h⟩ := h
    refine r_get2 (kd141 rfl) (by decide) rfl g rfl ?_
    obtain ⟨g, h⟩ := h
    refine r_get0 (kd141 rfl) (by decide) rfl g rfl ?_
    exact r_ireturn (kd141 rfl) R141 h
  have h := h.2 c
  refine ⟨fun c => ?_, fun c => ?_⟩
  · have h := h.1 c
    refine r_aload_n (kd141 rfl) rfl rfl ?_
    obtain ⟨g, h⟩ := h
    refine r_get2 (kd141 rfl) (by decide) rfl g rfl ?_
    obtain ⟨g, h⟩ := h
    refine r_get0 (kd141 rfl) (by decide) rfl g rfl ?_
    exact r_ireturn (kd141 rfl) R141 h
  have h := h.2 c
  refine ⟨fun c => ?_, fun c => ?_⟩
  · have h := h.1 c
    refine r_aload_n (kd141 rfl) rfl rfl ?_
    obtain ⟨g, h⟩ := h
    refine r_get2 (kd141 rfl) (by decide) rfl g rfl ?_
    obtain ⟨g, h⟩ := h
    refine r_get2 (kd141 rfl) (by decide) rfl g rfl ?_
    obtain ⟨g, h⟩ := h
    refine r_get0 (kd141 rfl) (by decide) rfl g rfl ?_
    exact r_ireturn (kd141 rfl) R141 h
  have h := h.2 c
  show e_E 141 _ _ _ 154 _ _ _ _
  refine r_iconst (kd141 rfl) (y := (-1)) (by decide) rfl ?_
  exact r_ireturn (kd141 rfl) R141 h
/-- TierMillModel.<init>()V -/
theorem kd142 {pc : Nat} {q : eI} (h : e_d142.lookup pc = some q) : e_dec 142 pc = some q := h
theorem L142 : (e_m 142).2.2.1 = 1 := rfl
theorem R142 : (e_m 142).2.2.2.1 = none := rfl
set_option maxRecDepth 100000 in
def w_Mod_init (kc ks : Nat) (l0 : Nat) (M : eM) (Q : eM → Prop) : Prop := e_c0 ≤ l0 ∧ ¬ (1500 : Int32) < 0 ∧ (1500 : Int32).toNatClampNeg ≤ 400000 ∧ 1 ≤ kc ∧ (1500 : Int32).toNatClampNeg ≤ ks ∧ ∀ M1 : eM, M1 = e_new M 20 (1500 : Int32).toNatClampNeg → e_ob M1 l0 12 ∧ ∀ M2 : eM, M2 = e_sr M1 l0 2 M.1 → ¬ (1500 : Int32) < 0 ∧ (1500 : Int32).toNatClampNeg ≤ 400000 ∧ 1 ≤ (kc - 1) ∧ (1500 : Int32).toNatClampNeg ≤ (ks - (1500 : Int32).toNatClampNeg) ∧ ∀ M3 : eM, M3 = e_new M2 20 (1500 : Int32).toNatClampNeg → e_ob M3 l0 12 ∧ ∀ M4 : eM, M4 = e_sr M3 l0 3 M2.1 → ¬ (1500 : Int32) < 0 ∧ (1500 : Int32).toNatClampNeg ≤ 400000 ∧ 1 ≤ (kc - 1 - 1) ∧ (1500 : Int32).toNatClampNeg ≤ (ks - (1500 : Int32).toNatClampNeg - (1500 : Int32).toNatClampNeg) ∧ ∀ M5 : eM, M5 = e_new M4 20 (1500 : Int32).toNatClampNeg → e_ob M5 l0 12 ∧ ∀ M6 : eM, M6 = e_sr M5 l0 5 M4.1 → ¬ (8 : Int32) < 0 ∧ (8 : Int32).toNatClampNeg ≤ 400000 ∧ 1 ≤ (kc - 1 - 1 - 1) ∧ (8 : Int32).toNatClampNeg ≤ (ks - (1500 : Int32).toNatClampNeg - (1500 : Int32).toNatClampNeg - (1500 : Int32).toNatClampNeg) ∧ ∀ M7 : eM, M7 = e_new M6 20 (8 : Int32).toNatClampNeg → e_ob M7 l0 12 ∧ ∀ M8 : eM, M8 = e_sr M7 l0 12 M6.1 → ¬ (8 : Int32) < 0 ∧ (8 : Int32).toNatClampNeg ≤ 400000 ∧ 1 ≤ (kc - 1 - 1 - 1 - 1) ∧ (8 : Int32).toNatClampNeg ≤ (ks - (1500 : Int32).toNatClampNeg - (1500 : Int32).toNatClampNeg - (1500 : Int32).toNatClampNeg - (8 : Int32).toNatClampNeg) ∧ ∀ M9 : eM, M9 = e_new M8 20 (8 : Int32).toNatClampNeg → e_ob M9 l0 12 ∧ ∀ M10 : eM, M10 = e_sr M9 l0 13 M8.1 → ¬ (64 : Int32) < 0 ∧ (64 : Int32).toNatClampNeg ≤ 400000 ∧ 1 ≤ (kc - 1 - 1 - 1 - 1 - 1) ∧ (64 : Int32).toNatClampNeg ≤ (ks - (1500 : Int32).toNatClampNeg - (1500 : Int32).toNatClampNeg - (1500 : Int32).toNatClampNeg - (8 : Int32).toNatClampNeg - (8 : Int32).toNatClampNeg) ∧ ∀ M11 : eM, M11 = e_new M10 20 (64 : Int32).toNatClampNeg → e_ob M11 l0 12 ∧ ∀ M12 : eM, M12 = e_sr M11 l0 14 M10.1 → ¬ (8 : Int32) < 0 ∧ (8 : Int32).toNatClampNeg ≤ 400000 ∧ 1 ≤ (kc - 1 - 1 - 1 - 1 - 1 - 1) ∧ (8 : Int32).toNatClampNeg ≤ (ks - (1500 : Int32).toNatClampNeg - (1500 : Int32).toNatClampNeg - (1500 : Int32).toNatClampNeg - (8 : Int32).toNatClampNeg - (8 : Int32).toNatClampNeg - (64 : Int32).toNatClampNeg) ∧ ∀ M13 : eM, M13 = e_new M12 20 (8 : Int32).toNatClampNeg → e_ob M13 l0 12 ∧ ∀ M14 : eM, M14 = e_sr M13 l0 16 M12.1 → ¬ (24 : Int32) < 0 ∧ (24 : Int32).toNatClampNeg ≤ 400000 ∧ 1 ≤ (kc - 1 - 1 - 1 - 1 - 1 - 1 - 1) ∧ (24 : Int32).toNatClampNeg ≤ (ks - (1500 : Int32).toNatClampNeg - (1500 : Int32).toNatClampNeg - (1500 : Int32).toNatClampNeg - (8 : Int32).toNatClampNeg - (8 : Int32).toNatClampNeg - (64 : Int32).toNatClampNeg - (8 : Int32).toNatClampNeg) ∧ ∀ M15 : eM, M15 = e_new M14 20 (24 : Int32).toNatClampNeg → e_ob M15 l0 12 ∧ ∀ M16 : eM, M16 = e_sr M15 l0 17 M14.1 → ¬ (8 : Int32) < 0 ∧ (8 : Int32).toNatClampNeg ≤ 400000 ∧ 1 ≤ (kc - 1 - 1 - 1 - 1 - 1 - 1 - 1 - 1) ∧ (8 : Int32).toNatClampNeg ≤ (ks - (1500 : Int32).toNatClampNeg - (1500 : Int32).toNatClampNeg - (1500 : Int32).toNatClampNeg - (8 : Int32).toNatClampNeg - (8 : Int32).toNatClampNeg - (64 : Int32).toNatClampNeg - (8 : Int32).toNatClampNeg - (24 : Int32).toNatClampNeg) ∧ ∀ M17 : eM, M17 = e_new M16 20 (8 : Int32).toNatClampNeg → e_ob M17 l0 12 ∧ ∀ M18 : eM, M18 = e_sr M17 l0 18 M16.1 → ¬ (16 : Int32) < 0 ∧ (16 : Int32).toNatClampNeg ≤ 400000 ∧ 1 ≤ (kc - 1 - 1 - 1 - 1 - 1 - 1 - 1 - 1 - 1) ∧ (16 : Int32).toNatClampNeg ≤ (ks - (1500 : Int32).toNatClampNeg - (1500 : Int32).toNatClampNeg - (1500 : Int32).toNatClampNeg - (8 : Int32).toNatClampNeg - (8 : Int32).toNatClampNeg - (64 : Int32).toNatClampNeg - (8 : Int32).toNatClampNeg - (24 : Int32).toNatClampNeg - (8 : Int32).toNatClampNeg) ∧ ∀ M19 : eM, M19 = e_new M18 20 (16 : Int32).toNatClampNeg → e_ob M19 l0 12 ∧ ∀ M20 : eM, M20 = e_sr M19 l0 20 M18.1 → ¬ (64 : Int32) < 0 ∧ (64 : Int32).toNatClampNeg ≤ 400000 ∧ 1 ≤ (kc - 1 - 1 - 1 - 1 - 1 - 1 - 1 - 1 - 1 - 1) ∧ (64 : Int32).toNatClampNeg ≤ (ks - (1500 : Int32).toNatClampNeg - (1500 : Int32).toNatClampNeg - (1500 : Int32).toNatClampNeg - (8 : Int32).toNatClampNeg - (8 : Int32).toNatClampNeg - (64 : Int32).toNatClampNeg - (8 : Int32).toNatClampNeg - (24 : Int32).toNatClampNeg - (8 : Int32).toNatClampNeg - (16 : Int32).toNatClampNeg) ∧ ∀ M21 : eM, M21 = e_new M20 20 (64 : Int32).toNatClampNeg → e_ob M21 l0 12 ∧ ∀ M22 : eM, M22 = e_sr M21 l0 21 M20.1 → ¬ (16 : Int32) < 0 ∧ (16 : Int32).toNatClampNeg ≤ 400000 ∧ 1 ≤ (kc - 1 - 1 - 1 - 1 - 1 - 1 - 1 - 1 - 1 - 1 - 1) ∧ (16 : Int32).toNatClampNeg ≤ (ks - (1500 : Int32).toNatClampNeg - (1500 : Int32).toNatClampNeg - (1500 : Int32).toNatClampNeg - (8 : Int32).toNatClampNeg - (8 : Int32).toNatClampNeg - (64 : Int32).toNatClampNeg - (8 : Int32).toNatClampNeg - (24 : Int32).toNatClampNeg - (8 : Int32).toNatClampNeg - (16 : Int32).toNatClampNeg - (64 : Int32).toNatClampNeg) ∧ ∀ M23 : eM, M23 = e_new M22 20 (16 : Int32).toNatClampNeg → e_ob M23 l0 12 ∧ ∀ M24 : eM, M24 = e_sr M23 l0 22 M22.1 → ¬ (16 : Int32) < 0 ∧ (16 : Int32).toNatClampNeg ≤ 400000 ∧ 1 ≤ (kc - 1 - 1 - 1 - 1 - 1 - 1 - 1 - 1 - 1 - 1 - 1 - 1) ∧ (16 : Int32).toNatClampNeg ≤ (ks - (1500 : Int32).toNatClampNeg - (1500 : Int32).toNatClampNeg - (1500 : Int32).toNatClampNeg - (8 : Int32).toNatClampNeg - (8 : Int32).toNatClampNeg - (64 : Int32).toNatClampNeg - (8 : Int32).toNatClampNeg - (24 : Int32).toNatClampNeg - (8 : Int32).toNatClampNeg - (16 : Int32).toNatClampNeg - (64 : Int32).toNatClampNeg - (16 : Int32).toNatClampNeg) ∧ ∀ M25 : eM, M25 = e_new M24 20 (16 : Int32).toNatClampNeg → e_ob M25 l0 12 ∧ ∀ M26 : eM, M26 = e_sr M25 l0 23 M24.1 → ¬ (16 : Int32) < 0 ∧ (16 : Int32).toNatClampNeg ≤ 400000 ∧ 1 ≤ (kc - 1 - 1 - 1 - 1 - 1 - 1 - 1 - 1 - 1 - 1 - 1 - 1 - 1) ∧ (16 : Int32).toNatClampNeg ≤ (ks - (1500 : Int32).toNatClampNeg - (1500 : Int32).toNatClampNeg - (1500 : Int32).toNatClampNeg - (8 : Int32).toNatClampNeg - (8 : Int32).toNatClampNeg - (64 : Int32).toNatClampNeg - (8 : Int32).toNatClampNeg - (24 : Int32).toNatClampNeg - (8 : Int32).toNatClampNeg - (16 : Int32).toNatClampNeg - (64 : Int32).toNatClampNeg - (16 : Int32).toNatClampNeg - (16 : Int32).toNatClampNeg) ∧ ∀ M27 : eM, M27 = e_new M26 20 (16 : Int32).toNatClampNeg → e_ob M27 l0 12 ∧ ∀ M28 : eM, M28 = e_sr M27 l0 24 M26.1 → ¬ (16 : Int32) < 0 ∧ (16 : Int32).toNatClampNeg ≤ 400000 ∧ 1 ≤ (kc - 1 - 1 - 1 - 1 - 1 - 1 - 1 - 1 - 1 - 1 - 1 - 1 - 1 - 1) ∧ (16 : Int32).toNatClampNeg ≤ (ks - (1500 : Int32).toNatClampNeg - (1500 : Int32).toNatClampNeg - (1500 : Int32).toNatClampNeg - (8 : Int32).toNatClampNeg - (8 : Int32).toNatClampNeg - (64 : Int32).toNatClampNeg - (8 : Int32).toNatClampNeg - (24 : Int32).toNatClampNeg - (8 : Int32).toNatClampNeg - (16 : Int32).toNatClampNeg - (64 : Int32).toNatClampNeg - (16 : Int32).toNatClampNeg - (16 : Int32).toNatClampNeg - (16 : Int32).toNatClampNeg) ∧ ∀ M29 : eM, M29 = e_new M28 20 (16 : Int32).toNatClampNeg → e_ob M29 l0 12 ∧ ∀ M30 : eM, M30 = e_sr M29 l0 25 M28.1 → ¬ (1920 : Int32) < 0 ∧ (1920 : Int32).toNatClampNeg ≤ 400000 ∧ 1 ≤ (kc - 1 - 1 - 1 - 1 - 1 - 1 - 1 - 1 - 1 - 1 - 1 - 1 - 1 - 1 - 1) ∧ (1920 : Int32).toNatClampNeg ≤ (ks - (1500 : Int32).toNatClampNeg - (1500 : Int32).toNatClampNeg - (1500 : Int32).toNatClampNeg - (8 : Int32).toNatClampNeg - (8 : Int32).toNatClampNeg - (64 : Int32).toNatClampNeg - (8 : Int32).toNatClampNeg - (24 : Int32).toNatClampNeg - (8 : Int32).toNatClampNeg - (16 : Int32).toNatClampNeg - (64 : Int32).toNatClampNeg - (16 : Int32).toNatClampNeg - (16 : Int32).toNatClampNeg - (16 : Int32).toNatClampNeg - (16 : Int32).toNatClampNeg) ∧ ∀ M31 : eM, M31 = e_new M30 20 (1920 : Int32).toNatClampNeg → e_ob M31 l0 12 ∧ ∀ M32 : eM, M32 = e_sr M31 l0 26 M30.1 → ¬ (1920 : Int32) < 0 ∧ (1920 : Int32).toNatClampNeg ≤ 400000 ∧ 1 ≤ (kc - 1 - 1 - 1 - 1 - 1 - 1 - 1 - 1 - 1 - 1 - 1 - 1 - 1 - 1 - 1 - 1) ∧ (1920 : Int32).toNatClampNeg ≤ (ks - (1500 : Int32).toNatClampNeg - (1500 : Int32).toNatClampNeg - (1500 : Int32).toNatClampNeg - (8 : Int32).toNatClampNeg - (8 : Int32).toNatClampNeg - (64 : Int32).toNatClampNeg - (8 : Int32).toNatClampNeg - (24 : Int32).toNatClampNeg - (8 : Int32).toNatClampNeg - (16 : Int32).toNatClampNeg - (64 : Int32).toNatClampNeg - (16 : Int32).toNatClampNeg - (16 : Int32).toNatClampNeg - (16 : Int32).toNatClampNeg - (16 : Int32).toNatClampNeg - (1920 : Int32).toNatClampNeg) ∧ ∀ M33 : eM, M33 = e_new M32 22 (1920 : Int32).toNatClampNeg → e_ob M33 l0 12 ∧ ∀ M34 : eM, M34 = e_sr M33 l0 27 M32.1 → ¬ (64 : Int32) < 0 ∧ (64 : Int32).toNatClampNeg ≤ 400000 ∧ 1 ≤ (kc - 1 - 1 - 1 - 1 - 1 - 1 - 1 - 1 - 1 - 1 - 1 - 1 - 1 - 1 - 1 - 1 - 1) ∧ (64 : Int32).toNatClampNeg ≤ (ks - (1500 : Int32).toNatClampNeg - (1500 : Int32).toNatClampNeg - (1500 : Int32).toNatClampNeg - (8 : Int32).toNatClampNeg - (8 : Int32).toNatClampNeg - (64 : Int32).toNatClampNeg - (8 : Int32).toNatClampNeg - (24 : Int32).toNatClampNeg - (8 : Int32).toNatClampNeg - (16 : Int32).toNatClampNeg - (64 : Int32).toNatClampNeg - (16 : Int32).toNatClampNeg - (16 : Int32).toNatClampNeg - (16 : Int32).toNatClampNeg - (16 : Int32).toNatClampNeg - (1920 : Int32).toNatClampNeg - (1920 : Int32).toNatClampNeg) ∧ ∀ M35 : eM, M35 = e_new M34 20 (64 : Int32).toNatClampNeg → e_ob M35 l0 12 ∧ ∀ M36 : eM, M36 = e_sr M35 l0 28 M34.1 → ¬ (1920 : Int32) < 0 ∧ (1920 : Int32).toNatClampNeg ≤ 400000 ∧ 1 ≤ (kc - 1 - 1 - 1 - 1 - 1 - 1 - 1 - 1 - 1 - 1 - 1 - 1 - 1 - 1 - 1 - 1 - 1 - 1) ∧ (1920 : Int32).toNatClampNeg ≤ (ks - (1500 : Int32).toNatClampNeg - (1500 : Int32).toNatClampNeg - (1500 : Int32).toNatClampNeg - (8 : Int32).toNatClampNeg - (8 : Int32).toNatClampNeg - (64 : Int32).toNatClampNeg - (8 : Int32).toNatClampNeg - (24 : Int32).toNatClampNeg - (8 : Int32).toNatClampNeg - (16 : Int32).toNatClampNeg - (64 : Int32).toNatClampNeg - (16 : Int32).toNatClampNeg - (16 : Int32).toNatClampNeg - (16 : Int32).toNatClampNeg - (16 : Int32).toNatClampNeg - (1920 : Int32).toNatClampNeg - (1920 : Int32).toNatClampNeg - (64 : Int32).toNatClampNeg) ∧ ∀ M37 : eM, M37 = e_new M36 20 (1920 : Int32).toNatClampNeg → e_ob M37 l0 12 ∧ ∀ M38 : eM, M38 = e_sr M37 l0 29 M36.1 → ¬ (30720 : Int32) < 0 ∧ (30720 : Int32).toNatClampNeg ≤ 400000 ∧ 1 ≤ (kc - 1 - 1 - 1 - 1 - 1 - 1 - 1 - 1 - 1 - 1 - 1 - 1 - 1 - 1 - 1 - 1 - 1 - 1 - 1) ∧ (30720 : Int32).toNatClampNeg ≤ (ks - (1500 : Int32).toNatClampNeg - (1500 : Int32).toNatClampNeg - (1500 : Int32).toNatClampNeg - (8 : Int32).toNatClampNeg - (8 : Int32).toNatClampNeg - (64 : Int32).toNatClampNeg - (8 : Int32).toNatClampNeg - (24 : Int32).toNatClampNeg - (8 : Int32).toNatClampNeg - (16 : Int32).toNatClampNeg - (64 : Int32).toNatClampNeg - (16 : Int32).toNatClampNeg - (16 : Int32).toNatClampNeg - (16 : Int32).toNatClampNeg - (16 : Int32).toNatClampNeg - (1920 : Int32).toNatClampNeg - (1920 : Int32).toNatClampNeg - (64 : Int32).toNatClampNeg - (1920 : Int32).toNatClampNeg) ∧ ∀ M39 : eM, M39 = e_new M38 20 (30720 : Int32).toNatClampNeg → e_ob M39 l0 12 ∧ ∀ M40 : eM, M40 = e_sr M39 l0 30 M38.1 → ¬ (16 : Int32) < 0 ∧ (16 : Int32).toNatClampNeg ≤ 400000 ∧ 1 ≤ (kc - 1 - 1 - 1 - 1 - 1 - 1 - 1 - 1 - 1 - 1 - 1 - 1 - 1 - 1 - 1 - 1 - 1 - 1 - 1 - 1) ∧ (16 : Int32).toNatClampNeg ≤ (ks - (1500 : Int32).toNatClampNeg - (1500 : Int32).toNatClampNeg - (1500 : Int32).toNatClampNeg - (8 : Int32).toNatClampNeg - (8 : Int32).toNatClampNeg - (64 : Int32).toNatClampNeg - (8 : Int32).toNatClampNeg - (24 : Int32).toNatClampNeg - (8 : Int32).toNatClampNeg - (16 : Int32).toNatClampNeg - (64 : Int32).toNatClampNeg - (16 : Int32).toNatClampNeg - (16 : Int32).toNatClampNeg - (16 : Int32).toNatClampNeg - (16 : Int32).toNatClampNeg - (1920 : Int32).toNatClampNeg - (1920 : Int32).toNatClampNeg - (64 : Int32).toNatClampNeg - (1920 : Int32).toNatClampNeg - (30720 : Int32).toNatClampNeg) ∧ ∀ M41 : eM, M41 = e_new M40 20 (16 : Int32).toNatClampNeg → e_ob M41 l0 12 ∧ ∀ M42 : eM, M42 = e_sr M41 l0 31 M40.1 → e_ob M42 l0 12 ∧ ∀ M43 : eM, M43 = e_si M42 l0 34 3 → e_ob M43 l0 12 ∧ ∀ M44 : eM, M44 = e_si M43 l0 35 2 → e_ob M44 l0 12 ∧ ∀ M45 : eM, M45 = e_si M44 l0 36 2 → e_ob M45 l0 12 ∧ ∀ M46 : eM, M46 = e_si M45 l0 37 40 → e_ob M46 l0 12 ∧ ∀ M47 : eM, M47 = e_si M46 l0 38 500 → ¬ (100 : Int32) < 0 ∧ (100 : Int32).toNatClampNeg ≤ 400000 ∧ 1 ≤ (kc - 1 - 1 - 1 - 1 - 1 - 1 - 1 - 1 - 1 - 1 - 1 - 1 - 1 - 1 - 1 - 1 - 1 - 1 - 1 - 1 - 1) ∧ (100 : Int32).toNatClampNeg ≤ (ks - (1500 : Int32).toNatClampNeg - (1500 : Int32).toNatClampNeg - (1500 : Int32).toNatClampNeg - (8 : Int32).toNatClampNeg - (8 : Int32).toNatClampNeg - (64 : Int32).toNatClampNeg - (8 : Int32).toNatClampNeg - (24 : Int32).toNatClampNeg - (8 : Int32).toNatClampNeg - (16 : Int32).toNatClampNeg - (64 : Int32).toNatClampNeg - (16 : Int32).toNatClampNeg - (16 : Int32).toNatClampNeg - (16 : Int32).toNatClampNeg - (16 : Int32).toNatClampNeg - (1920 : Int32).toNatClampNeg - (1920 : Int32).toNatClampNeg - (64 : Int32).toNatClampNeg - (1920 : Int32).toNatClampNeg - (30720 : Int32).toNatClampNeg - (16 : Int32).toNatClampNeg) ∧ ∀ M48 : eM, M48 = e_new M47 20 (100 : Int32).toNatClampNeg → e_ob M48 l0 12 ∧ ∀ M49 : eM, M49 = e_sr M48 l0 40 M47.1 → ¬ (500 : Int32) < 0 ∧ (500 : Int32).toNatClampNeg ≤ 400000 ∧ 1 ≤ (kc - 1 - 1 - 1 - 1 - 1 - 1 - 1 - 1 - 1 - 1 - 1 - 1 - 1 - 1 - 1 - 1 - 1 - 1 - 1 - 1 - 1 - 1) ∧ (500 : Int32).toNatClampNeg ≤ (ks - (1500 : Int32).toNatClampNeg - (1500 : Int32).toNatClampNeg - (1500 : Int32).toNatClampNeg - (8 : Int32).toNatClampNeg - (8 : Int32).toNatClampNeg - (64 : Int32).toNatClampNeg - (8 : Int32).toNatClampNeg - (24 : Int32).toNatClampNeg - (8 : Int32).toNatClampNeg - (16 : Int32).toNatClampNeg - (64 : Int32).toNatClampNeg - (16 : Int32).toNatClampNeg - (16 : Int32).toNatClampNeg - (16 : Int32).toNatClampNeg - (16 : Int32).toNatClampNeg - (1920 : Int32).toNatClampNeg - (1920 : Int32).toNatClampNeg - (64 : Int32).toNatClampNeg - (1920 : Int32).toNatClampNeg - (30720 : Int32).toNatClampNeg - (16 : Int32).toNatClampNeg - (100 : Int32).toNatClampNeg) ∧ ∀ M50 : eM, M50 = e_new M49 20 (500 : Int32).toNatClampNeg → e_ob M50 l0 12 ∧ ∀ M51 : eM, M51 = e_sr M50 l0 48 M49.1 → ¬ (16 : Int32) < 0 ∧ (16 : Int32).toNatClampNeg ≤ 400000 ∧ 1 ≤ (kc - 1 - 1 - 1 - 1 - 1 - 1 - 1 - 1 - 1 - 1 - 1 - 1 - 1 - 1 - 1 - 1 - 1 - 1 - 1 - 1 - 1 - 1 - 1) ∧ (16 : Int32).toNatClampNeg ≤ (ks - (1500 : Int32).toNatClampNeg - (1500 : Int32).toNatClampNeg - (1500 : Int32).toNatClampNeg - (8 : Int32).toNatClampNeg - (8 : Int32).toNatClampNeg - (64 : Int32).toNatClampNeg - (8 : Int32).toNatClampNeg - (24 : Int32).toNatClampNeg - (8 : Int32).toNatClampNeg - (16 : Int32).toNatClampNeg - (64 : Int32).toNatClampNeg - (16 : Int32).toNatClampNeg - (16 : Int32).toNatClampNeg - (16 : Int32).toNatClampNeg - (16 : Int32).toNatClampNeg - (1920 : Int32).toNatClampNeg - (1920 : Int32).toNatClampNeg - (64 : Int32).toNatClampNeg - (1920 : Int32).toNatClampNeg - (30720 : Int32).toNatClampNeg - (16 : Int32).toNatClampNeg - (100 : Int32).toNatClampNeg - (500 : Int32).toNatClampNeg) ∧ ∀ M52 : eM, M52 = e_new M51 20 (16 : Int32).toNatClampNeg → e_ob M52 l0 12 ∧ ∀ M53 : eM, M53 = e_sr M52 l0 49 M51.1 → ¬ (16 : Int32) < 0 ∧ (16 : Int32).toNatClampNeg ≤ 400000 ∧ 1 ≤ (kc - 1 - 1 - 1 - 1 - 1 - 1 - 1 - 1 - 1 - 1 - 1 - 1 - 1 - 1 - 1 - 1 - 1 - 1 - 1 - 1 - 1 - 1 - 1 - 1) ∧ (16 : Int32).toNatClampNeg ≤ (ks - (1500 : Int32).toNatClampNeg - (1500 : Int32).toNatClampNeg - (1500 : Int32).toNatClampNeg - (8 : Int32).toNatClampNeg - (8 : Int32).toNatClampNeg - (64 : Int32).toNatClampNeg - (8 : Int32).toNatClampNeg - (24 : Int32).toNatClampNeg - (8 : Int32).toNatClampNeg - (16 : Int32).toNatClampNeg - (64 : Int32).toNatClampNeg - (16 : Int32).toNatClampNeg - (16 : Int32).toNatClampNeg - (16 : Int32).toNatClampNeg - (16 : Int32).toNatClampNeg - (1920 : Int32).toNatClampNeg - (1920 : Int32).toNatClampNeg - (64 : Int32).toNatClampNeg - (1920 : Int32).toNatClampNeg - (30720 : Int32).toNatClampNeg - (16 : Int32).toNatClampNeg - (100 : Int32).toNatClampNeg - (500 : Int32).toNatClampNeg - (16 : Int32).toNatClampNeg) ∧ ∀ M54 : eM, M54 = e_new M53 20 (16 : Int32).toNatClampNeg → e_ob M54 l0 12 ∧ ∀ M55 : eM, M55 = e_sr M54 l0 50 M53.1 → ¬ (15360 : Int32) < 0 ∧ (15360 : Int32).toNatClampNeg ≤ 400000 ∧ 1 ≤ (kc - 1 - 1 - 1 - 1 - 1 - 1 - 1 - 1 - 1 - 1 - 1 - 1 - 1 - 1 - 1 - 1 - 1 - 1 - 1 - 1 - 1 - 1 - 1 - 1 - 1) ∧ (15360 : Int32).toNatClampNeg ≤ (ks - (1500 : Int32).toNatClampNeg - (1500 : Int32).toNatClampNeg - (1500 : Int32).toNatClampNeg - (8 : Int32).toNatClampNeg - (8 : Int32).toNatClampNeg - (64 : Int32).toNatClampNeg - (8 : Int32).toNatClampNeg - (24 : Int32).toNatClampNeg - (8 : Int32).toNatClampNeg - (16 : Int32).toNatClampNeg - (64 : Int32).toNatClampNeg - (16 : Int32).toNatClampNeg - (16 : Int32).toNatClampNeg - (16 : Int32).toNatClampNeg - (16 : Int32).toNatClampNeg - (1920 : Int32).toNatClampNeg - (1920 : Int32).toNatClampNeg - (64 : Int32).toNatClampNeg - (1920 : Int32).toNatClampNeg - (30720 : Int32).toNatClampNeg - (16 : Int32).toNatClampNeg - (100 : Int32).toNatClampNeg - (500 : Int32).toNatClampNeg - (16 : Int32).toNatClampNeg - (16 : Int32).toNatClampNeg) ∧ ∀ M56 : eM, M56 = e_new M55 20 (15360 : Int32).toNatClampNeg → e_ob M56 l0 12 ∧ ∀ M57 : eM, M57 = e_sr M56 l0 51 M55.1 → ¬ (1500 : Int32) < 0 ∧ (1500 : Int32).toNatClampNeg ≤ 400000 ∧ 1 ≤ (kc - 1 - 1 - 1 - 1 - 1 - 1 - 1 - 1 - 1 - 1 - 1 - 1 - 1 - 1 - 1 - 1 - 1 - 1 - 1 - 1 - 1 - 1 - 1 - 1 - 1 - 1) ∧ (1500 : Int32).toNatClampNeg ≤ (ks - (1500 : Int32).toNatClampNeg - (1500 : Int32).toNatClampNeg - (1500 : Int32).toNatClampNeg - (8 : Int32).toNatClampNeg - (8 : Int32).toNatClampNeg - (64 : Int32).toNatClampNeg - (8 : Int32).toNatClampNeg - (24 : Int32).toNatClampNeg - (8 : Int32).toNatClampNeg - (16 : Int32).toNatClampNeg - (64 : Int32).toNatClampNeg - (16 : Int32).toNatClampNeg - (16 : Int32).toNatClampNeg - (16 : Int32).toNatClampNeg - (16 : Int32).toNatClampNeg - (1920 : Int32).toNatClampNeg - (1920 : Int32).toNatClampNeg - (64 : Int32).toNatClampNeg - (1920 : Int32).toNatClampNeg - (30720 : Int32).toNatClampNeg - (16 : Int32).toNatClampNeg - (100 : Int32).toNatClampNeg - (500 : Int32).toNatClampNeg - (16 : Int32).toNatClampNeg - (16 : Int32).toNatClampNeg - (15360 : Int32).toNatClampNeg) ∧ ∀ M58 : eM, M58 = e_new M57 20 (1500 : Int32).toNatClampNeg → e_ob M58 l0 12 ∧ ∀ M59 : eM, M59 = e_sr M58 l0 53 M57.1 → ¬ (101 : Int32) < 0 ∧ (101 : Int32).toNatClampNeg ≤ 400000 ∧ 1 ≤ (kc - 1 - 1 - 1 - 1 - 1 - 1 - 1 - 1 - 1 - 1 - 1 - 1 - 1 - 1 - 1 - 1 - 1 - 1 - 1 - 1 - 1 - 1 - 1 - 1 - 1 - 1 - 1) ∧ (101 : Int32).toNatClampNeg ≤ (ks - (1500 : Int32).toNatClampNeg - (1500 : Int32).toNatClampNeg - (1500 : Int32).toNatClampNeg - (8 : Int32).toNatClampNeg - (8 : Int32).toNatClampNeg - (64 : Int32).toNatClampNeg - (8 : Int32).toNatClampNeg - (24 : Int32).toNatClampNeg - (8 : Int32).toNatClampNeg - (16 : Int32).toNatClampNeg - (64 : Int32).toNatClampNeg - (16 : Int32).toNatClampNeg - (16 : Int32).toNatClampNeg - (16 : Int32).toNatClampNeg - (16 : Int32).toNatClampNeg - (1920 : Int32).toNatClampNeg - (1920 : Int32).toNatClampNeg - (64 : Int32).toNatClampNeg - (1920 : Int32).toNatClampNeg - (30720 : Int32).toNatClampNeg - (16 : Int32).toNatClampNeg - (100 : Int32).toNatClampNeg - (500 : Int32).toNatClampNeg - (16 : Int32).toNatClampNeg - (16 : Int32).toNatClampNeg - (15360 : Int32).toNatClampNeg - (1500 : Int32).toNatClampNeg) ∧ ∀ M60 : eM, M60 = e_new M59 20 (101 : Int32).toNatClampNeg → e_ob M60 l0 12 ∧ ∀ M61 : eM, M61 = e_sr M60 l0 55 M59.1 → ¬ (101 : Int32) < 0 ∧ (101 : Int32).toNatClampNeg ≤ 400000 ∧ 1 ≤ (kc - 1 - 1 - 1 - 1 - 1 - 1 - 1 - 1 - 1 - 1 - 1 - 1 - 1 - 1 - 1 - 1 - 1 - 1 - 1 - 1 - 1 - 1 - 1 - 1 - 1 - 1 - 1 - 1) ∧ (101 : Int32).toNatClampNeg ≤ (ks - (1500 : Int32).toNatClampNeg - (1500 : Int32).toNatClampNeg - (1500 : Int32).toNatClampNeg - (8 : Int32).toNatClampNeg - (8 : Int32).toNatClampNeg - (64 : Int32).toNatClampNeg - (8 : Int32).toNatClampNeg - (24 : Int32).toNatClampNeg - (8 : Int32).toNatClampNeg - (16 : Int32).toNatClampNeg - (64 : Int32).toNatClampNeg - (16 : Int32).toNatClampNeg - (16 : Int32).toNatClampNeg - (16 : Int32).toNatClampNeg - (16 : Int32).toNatClampNeg - (1920 : Int32).toNatClampNeg - (1920 : Int32).toNatClampNeg - (64 : Int32).toNatClampNeg - (1920 : Int32).toNatClampNeg - (30720 : Int32).toNatClampNeg - (16 : Int32).toNatClampNeg - (100 : Int32).toNatClampNeg - (500 : Int32).toNatClampNeg - (16 : Int32).toNatClampNeg - (16 : Int32).toNatClampNeg - (15360 : Int32).toNatClampNeg - (1500 : Int32).toNatClampNeg - (101 : Int32).toNatClampNeg) ∧ ∀ M62 : eM, M62 = e_new M61 20 (101 : Int32).toNatClampNeg → e_ob M62 l0 12 ∧ ∀ M63 : eM, M63 = e_sr M62 l0 56 M61.1 → ¬ (180600 : Int32) < 0 ∧ (180600 : Int32).toNatClampNeg ≤ 400000 ∧ 1 ≤ (kc - 1 - 1 - 1 - 1 - 1 - 1 - 1 - 1 - 1 - 1 - 1 - 1 - 1 - 1 - 1 - 1 - 1 - 1 - 1 - 1 - 1 - 1 - 1 - 1 - 1 - 1 - 1 - 1 - 1) ∧ (180600 : Int32).toNatClampNeg ≤ (ks - (1500 : Int32).toNatClampNeg - (1500 : Int32).toNatClampNeg - (1500 : Int32).toNatClampNeg - (8 : Int32).toNatClampNeg - (8 : Int32).toNatClampNeg - (64 : Int32).toNatClampNeg - (8 : Int32).toNatClampNeg - (24 : Int32).toNatClampNeg - (8 : Int32).toNatClampNeg - (16 : Int32).toNatClampNeg - (64 : Int32).toNatClampNeg - (16 : Int32).toNatClampNeg - (16 : Int32).toNatClampNeg - (16 : Int32).toNatClampNeg - (16 : Int32).toNatClampNeg - (1920 : Int32).toNatClampNeg - (1920 : Int32).toNatClampNeg - (64 : Int32).toNatClampNeg - (1920 : Int32).toNatClampNeg - (30720 : Int32).toNatClampNeg - (16 : Int32).toNatClampNeg - (100 : Int32).toNatClampNeg - (500 : Int32).toNatClampNeg - (16 : Int32).toNatClampNeg - (16 : Int32).toNatClampNeg - (15360 : Int32).toNatClampNeg - (1500 : Int32).toNatClampNeg - (101 : Int32).toNatClampNeg - (101 : Int32).toNatClampNeg) ∧ ∀ M64 : eM, M64 = e_new M63 20 (180600 : Int32).toNatClampNeg → e_ob M64 l0 12 ∧ ∀ M65 : eM, M65 = e_sr M64 l0 59 M63.1 → ¬ (64 : Int32) < 0 ∧ (64 : Int32).toNatClampNeg ≤ 400000 ∧ 1 ≤ (kc - 1 - 1 - 1 - 1 - 1 - 1 - 1 - 1 - 1 - 1 - 1 - 1 - 1 - 1 - 1 - 1 - 1 - 1 - 1 - 1 - 1 - 1 - 1 - 1 - 1 - 1 - 1 - 1 - 1 - 1) ∧ (64 : Int32).toNatClampNeg ≤ (ks - (1500 : Int32).toNatClampNeg - (1500 : Int32).toNatClampNeg - (1500 : Int32).toNatClampNeg - (8 : Int32).toNatClampNeg - (8 : Int32).toNatClampNeg - (64 : Int32).toNatClampNeg - (8 : Int32).toNatClampNeg - (24 : Int32).toNatClampNeg - (8 : Int32).toNatClampNeg - (16 : Int32).toNatClampNeg - (64 : Int32).toNatClampNeg - (16 : Int32).toNatClampNeg - (16 : Int32).toNatClampNeg - (16 : Int32).toNatClampNeg - (16 : Int32).toNatClampNeg - (1920 : Int32).toNatClampNeg - (1920 : Int32).toNatClampNeg - (64 : Int32).toNatClampNeg - (1920 : Int32).toNatClampNeg - (30720 : Int32).toNatClampNeg - (16 : Int32).toNatClampNeg - (100 : Int32).toNatClampNeg - (500 : Int32).toNatClampNeg - (16 : Int32).toNatClampNeg - (16 : Int32).toNatClampNeg - (15360 : Int32).toNatClampNeg - (1500 : Int32).toNatClampNeg - (101 : Int32).toNatClampNeg - (101 : Int32).toNatClampNeg - (180600 : Int32).toNatClampNeg) ∧ ∀ M66 : eM, M66 = e_new M65 20 (64 : Int32).toNatClampNeg → e_ob M66 l0 12 ∧ ∀ M67 : eM, M67 = e_sr M66 l0 61 M65.1 → ¬ (64 : Int32) < 0 ∧ (64 : Int32).toNatClampNeg ≤ 400000 ∧ 1 ≤ (kc - 1 - 1 - 1 - 1 - 1 - 1 - 1 - 1 - 1 - 1 - 1 - 1 - 1 - 1 - 1 - 1 - 1 - 1 - 1 - 1 - 1 - 1 - 1 - 1 - 1 - 1 - 1 - 1 - 1 - 1 - 1) ∧ (64 : Int32).toNatClampNeg ≤ (ks - (1500 : Int32).toNatClampNeg - (1500 : Int32).toNatClampNeg - (1500 : Int32).toNatClampNeg - (8 : Int32).toNatClampNeg - (8 : Int32).toNatClampNeg - (64 : Int32).toNatClampNeg - (8 : Int32).toNatClampNeg - (24 : Int32).toNatClampNeg - (8 : Int32).toNatClampNeg - (16 : Int32).toNatClampNeg - (64 : Int32).toNatClampNeg - (16 : Int32).toNatClampNeg - (16 : Int32).toNatClampNeg - (16 : Int32).toNatClampNeg - (16 : Int32).toNatClampNeg - (1920 : Int32).toNatClampNeg - (1920 : Int32).toNatClampNeg - (64 : Int32).toNatClampNeg - (1920 : Int32).toNatClampNeg - (30720 : Int32).toNatClampNeg - (16 : Int32).toNatClampNeg - (100 : Int32).toNatClampNeg - (500 : Int32).toNatClampNeg - (16 : Int32).toNatClampNeg - (16 : Int32).toNatClampNeg - (15360 : Int32).toNatClampNeg - (1500 : Int32).toNatClampNeg - (101 : Int32).toNatClampNeg - (101 : Int32).toNatClampNeg - (180600 : Int32).toNatClampNeg - (64 : Int32).toNatClampNeg) ∧ ∀ M68 : eM, M68 = e_new M67 20 (64 : Int32).toNatClampNeg → e_ob M68 l0 12 ∧ ∀ M69 : eM, M69 = e_sr M68 l0 62 M67.1 → ¬ (64 : Int32) < 0 ∧ (64 : Int32).toNatClampNeg ≤ 400000 ∧ 1 ≤ (kc - 1 - 1 - 1 - 1 - 1 - 1 - 1 - 1 - 1 - 1 - 1 - 1 - 1 - 1 - 1 - 1 - 1 - 1 - 1 - 1 - 1 - 1 - 1 - 1 - 1 - 1 - 1 - 1 - 1 - 1 - 1 - 1) ∧ (64 : Int32).toNatClampNeg ≤ (ks - (1500 : Int32).toNatClampNeg - (1500 : Int32).toNatClampNeg - (1500 : Int32).toNatClampNeg - (8 : Int32).toNatClampNeg - (8 : Int32).toNatClampNeg - (64 : Int32).toNatClampNeg - (8 : Int32).toNatClampNeg - (24 : Int32).toNatClampNeg - (8 : Int32).toNatClampNeg - (16 : Int32).toNatClampNeg - (64 : Int32).toNatClampNeg - (16 : Int32).toNatClampNeg - (16 : Int32).toNatClampNeg - (16 : Int32).toNatClampNeg - (16 : Int32).toNatClampNeg - (1920 : Int32).toNatClampNeg - (1920 : Int32).toNatClampNeg - (64 : Int32).toNatClampNeg - (1920 : Int32).toNatClampNeg - (30720 : Int32).toNatClampNeg - (16 : Int32).toNatClampNeg - (100 : Int32).toNatClampNeg - (500 : Int32).toNatClampNeg - (16 : Int32).toNatClampNeg - (16 : Int32).toNatClampNeg - (15360 : Int32).toNatClampNeg - (1500 : Int32).toNatClampNeg - (101 : Int32).toNatClampNeg - (101 : Int32).toNatClampNeg - (180600 : Int32).toNatClampNeg - (64 : Int32).toNatClampNeg - (64 : Int32).toNatClampNeg) ∧ ∀ M70 : eM, M70 = e_new M69 20 (64 : Int32).toNatClampNeg → e_ob M70 l0 12 ∧ ∀ M71 : eM, M71 = e_sr M70 l0 63 M69.1 → ¬ (64 : Int32) < 0 ∧ (64 : Int32).toNatClampNeg ≤ 400000 ∧ 1 ≤ (kc - 1 - 1 - 1 - 1 - 1 - 1 - 1 - 1 - 1 - 1 - 1 - 1 - 1 - 1 - 1 - 1 - 1 - 1 - 1 - 1 - 1 - 1 - 1 - 1 - 1 - 1 - 1 - 1 - 1 - 1 - 1 - 1 - 1) ∧ (64 : Int32).toNatClampNeg ≤ (ks - (1500 : Int32).toNatClampNeg - (1500 : Int32).toNatClampNeg - (1500 : Int32).toNatClampNeg - (8 : Int32).toNatClampNeg - (8 : Int32).toNatClampNeg - (64 : Int32).toNatClampNeg - (8 : Int32).toNatClampNeg - (24 : Int32).toNatClampNeg - (8 : Int32).toNatClampNeg - (16 : Int32).toNatClampNeg - (64 : Int32).toNatClampNeg - (16 : Int32).toNatClampNeg - (16 : Int32).toNatClampNeg - (16 : Int32).toNatClampNeg - (16 : Int32).toNatClampNeg - (1920 : Int32).toNatClampNeg - (1920 : Int32).toNatClampNeg - (64 : Int32).toNatClampNeg - (1920 : Int32).toNatClampNeg - (30720 : Int32).toNatClampNeg - (16 : Int32).toNatClampNeg - (100 : Int32).toNatClampNeg - (500 : Int32).toNatClampNeg - (16 : Int32).toNatClampNeg - (16 : Int32).toNatClampNeg - (15360 : Int32).toNatClampNeg - (1500 : Int32).toNatClampNeg - (101 : Int32).toNatClampNeg - (101 : Int32).toNatClampNeg - (180600 : Int32).toNatClampNeg - (64 : Int32).toNatClampNeg - (64 : Int32).toNatClampNeg - (64 : Int32).toNatClampNeg) ∧ ∀ M72 : eM, M72 = e_new M71 20 (64 : Int32).toNatClampNeg → e_ob M72 l0 12 ∧ ∀ M73 : eM, M73 = e_sr M72 l0 64 M71.1 → ¬ (64 : Int32) < 0 ∧ (64 : Int32).toNatClampNeg ≤ 400000 ∧ 1 ≤ (kc - 1 - 1 - 1 - 1 - 1 - 1 - 1 - 1 - 1 - 1 - 1 - 1 - 1 - 1 - 1 - 1 - 1 - 1 - 1 - 1 - 1 - 1 - 1 - 1 - 1 - 1 - 1 - 1 - 1 - 1 - 1 - 1 - 1 - 1) ∧ (64 : Int32).toNatClampNeg ≤ (ks - (1500 : Int32).toNatClampNeg - (1500 : Int32).toNatClampNeg - (1500 : Int32).toNatClampNeg - (8 : Int32).toNatClampNeg - (8 : Int32).toNatClampNeg - (64 : Int32).toNatClampNeg - (8 : Int32).toNatClampNeg - (24 : Int32).toNatClampNeg - (8 : Int32).toNatClampNeg - (16 : Int32).toNatClampNeg - (64 : Int32).toNatClampNeg - (16 : Int32).toNatClampNeg - (16 : Int32).toNatClampNeg - (16 : Int32).toNatClampNeg - (16 : Int32).toNatClampNeg - (1920 : Int32).toNatClampNeg - (1920 : Int32).toNatClampNeg - (64 : Int32).toNatClampNeg - (1920 : Int32).toNatClampNeg - (30720 : Int32).toNatClampNeg - (16 : Int32).toNatClampNeg - (100 : Int32).toNatClampNeg - (500 : Int32).toNatClampNeg - (16 : Int32).toNatClampNeg - (16 : Int32).toNatClampNeg - (15360 : Int32).toNatClampNeg - (1500 : Int32).toNatClampNeg - (101 : Int32).toNatClampNeg - (101 : Int32).toNatClampNeg - (180600 : Int32).toNatClampNeg - (64 : Int32).toNatClampNeg - (64 : Int32).toNatClampNeg - (64 : Int32).toNatClampNeg - (64 : Int32).toNatClampNeg) ∧ ∀ M74 : eM, M74 = e_new M73 20 (64 : Int32).toNatClampNeg → e_ob M74 l0 12 ∧ ∀ M75 : eM, M75 = e_sr M74 l0 65 M73.1 → ¬ (64 : Int32) < 0 ∧ (64 : Int32).toNatClampNeg ≤ 400000 ∧ 1 ≤ (kc - 1 - 1 - 1 - 1 - 1 - 1 - 1 - 1 - 1 - 1 - 1 - 1 - 1 - 1 - 1 - 1 - 1 - 1 - 1 - 1 - 1 - 1 - 1 - 1 - 1 - 1 - 1 - 1 - 1 - 1 - 1 - 1 - 1 - 1 - 1) ∧ (64 : Int32).toNatClampNeg ≤ (ks - (1500 : Int32).toNatClampNeg - (1500 : Int32).toNatClampNeg - (1500 : Int32).toNatClampNeg - (8 : Int32).toNatClampNeg - (8 : Int32).toNatClampNeg - (64 : Int32).toNatClampNeg - (8 : Int32).toNatClampNeg - (24 : Int32).toNatClampNeg - (8 : Int32).toNatClampNeg - (16 : Int32).toNatClampNeg - (64 : Int32).toNatClampNeg - (16 : Int32).toNatClampNeg - (16 : Int32).toNatClampNeg - (16 : Int32).toNatClampNeg - (16 : Int32).toNatClampNeg - (1920 : Int32).toNatClampNeg - (1920 : Int32).toNatClampNeg - (64 : Int32).toNatClampNeg - (1920 : Int32).toNatClampNeg - (30720 : Int32).toNatClampNeg - (16 : Int32).toNatClampNeg - (100 : Int32).toNatClampNeg - (500 : Int32).toNatClampNeg - (16 : Int32).toNatClampNeg - (16 : Int32).toNatClampNeg - (15360 : Int32).toNatClampNeg - (1500 : Int32).toNatClampNeg - (101 : Int32).toNatClampNeg - (101 : Int32).toNatClampNeg - (180600 : Int32).toNatClampNeg - (64 : Int32).toNatClampNeg - (64 : Int32).toNatClampNeg - (64 : Int32).toNatClampNeg - (64 : Int32).toNatClampNeg - (64 : Int32).toNatClampNeg) ∧ ∀ M76 : eM, M76 = e_new M75 20 (64 : Int32).toNatClampNeg → e_ob M76 l0 12 ∧ ∀ M77 : eM, M77 = e_sr M76 l0 66 M75.1 → ¬ (64 : Int32) < 0 ∧ (64 : Int32).toNatClampNeg ≤ 400000 ∧ 1 ≤ (kc - 1 - 1 - 1 - 1 - 1 - 1 - 1 - 1 - 1 - 1 - 1 - 1 - 1 - 1 - 1 - 1 - 1 - 1 - 1 - 1 - 1 - 1 - 1 - 1 - 1 - 1 - 1 - 1 - 1 - 1 - 1 - 1 - 1 - 1 - 1 - 1) ∧ (64 : Int32).toNatClampNeg ≤ (ks - (1500 : Int32).toNatClampNeg - (1500 : Int32).toNatClampNeg - (1500 : Int32).toNatClampNeg - (8 : Int32).toNatClampNeg - (8 : Int32).toNatClampNeg - (64 : Int32).toNatClampNeg - (8 : Int32).toNatClampNeg - (24 : Int32).toNatClampNeg - (8 : Int32).toNatClampNeg - (16 : Int32).toNatClampNeg - (64 : Int32).toNatClampNeg - (16 : Int32).toNatClampNeg - (16 : Int32).toNatClampNeg - (16 : Int32).toNatClampNeg - (16 : Int32).toNatClampNeg - (1920 : Int32).toNatClampNeg - (1920 : Int32).toNatClampNeg - (64 : Int32).toNatClampNeg - (1920 : Int32).toNatClampNeg - (30720 : Int32).toNatClampNeg - (16 : Int32).toNatClampNeg - (100 : Int32).toNatClampNeg - (500 : Int32).toNatClampNeg - (16 : Int32).toNatClampNeg - (16 : Int32).toNatClampNeg - (15360 : Int32).toNatClampNeg - (1500 : Int32).toNatClampNeg - (101 : Int32).toNatClampNeg - (101 : Int32).toNatClampNeg - (180600 : Int32).toNatClampNeg - (64 : Int32).toNatClampNeg - (64 : Int32).toNatClampNeg - (64 : Int32).toNatClampNeg - (64 : Int32).toNatClampNeg - (64 : Int32).toNatClampNeg - (64 : Int32).toNatClampNeg) ∧ ∀ M78 : eM, M78 = e_new M77 20 (64 : Int32).toNatClampNeg → e_ob M78 l0 12 ∧ ∀ M79 : eM, M79 = e_sr M78 l0 67 M77.1 → ¬ (512 : Int32) < 0 ∧ (512 : Int32).toNatClampNeg ≤ 400000 ∧ 1 ≤ (kc - 1 - 1 - 1 - 1 - 1 - 1 - 1 - 1 - 1 - 1 - 1 - 1 - 1 - 1 - 1 - 1 - 1 - 1 - 1 - 1 - 1 - 1 - 1 - 1 - 1 - 1 - 1 - 1 - 1 - 1 - 1 - 1 - 1 - 1 - 1 - 1 - 1) ∧ (512 : Int32).toNatClampNeg ≤ (ks - (1500 : Int32).toNatClampNeg - (1500 : Int32).toNatClampNeg - (1500 : Int32).toNatClampNeg - (8 : Int32).toNatClampNeg - (8 : Int32).toNatClampNeg - (64 : Int32).toNatClampNeg - (8 : Int32).toNatClampNeg - (24 : Int32).toNatClampNeg - (8 : Int32).toNatClampNeg - (16 : Int32).toNatClampNeg - (64 : Int32).toNatClampNeg - (16 : Int32).toNatClampNeg - (16 : Int32).toNatClampNeg - (16 : Int32).toNatClampNeg - (16 : Int32).toNatClampNeg - (1920 : Int32).toNatClampNeg - (1920 : Int32).toNatClampNeg - (64 : Int32).toNatClampNeg - (1920 : Int32).toNatClampNeg - (30720 : Int32).toNatClampNeg - (16 : Int32).toNatClampNeg - (100 : Int32).toNatClampNeg - (500 : Int32).toNatClampNeg - (16 : Int32).toNatClampNeg - (16 : Int32).toNatClampNeg - (15360 : Int32).toNatClampNeg - (1500 : Int32).toNatClampNeg - (101 : Int32).toNatClampNeg - (101 : Int32).toNatClampNeg - (180600 : Int32).toNatClampNeg - (64 : Int32).toNatClampNeg - (64 : Int32).toNatClampNeg - (64 : Int32).toNatClampNeg - (64 : Int32).toNatClampNeg - (64 : Int32).toNatClampNeg - (64 : Int32).toNatClampNeg - (64 : Int32).toNatClampNeg) ∧ ∀ M80 : eM, M80 = e_new M79 20 (512 : Int32).toNatClampNeg → e_ob M80 l0 12 ∧ ∀ M81 : eM, M81 = e_sr M80 l0 68 M79.1 → ¬ (512 : Int32) < 0 ∧ (512 : Int32).toNatClampNeg ≤ 400000 ∧ 1 ≤ (kc - 1 - 1 - 1 - 1 - 1 - 1 - 1 - 1 - 1 - 1 - 1 - 1 - 1 - 1 - 1 - 1 - 1 - 1 - 1 - 1 - 1 - 1 - 1 - 1 - 1 - 1 - 1 - 1 - 1 - 1 - 1 - 1 - 1 - 1 - 1 - 1 - 1 - 1) ∧ (512 : Int32).toNatClampNeg ≤ (ks - (1500 : Int32).toNatClampNeg - (1500 : Int32).toNatClampNeg - (1500 : Int32).toNatClampNeg - (8 : Int32).toNatClampNeg - (8 : Int32).toNatClampNeg - (64 : Int32).toNatClampNeg - (8 : Int32).toNatClampNeg - (24 : Int32).toNatClampNeg - (8 : Int32).toNatClampNeg - (16 : Int32).toNatClampNeg - (64 : Int32).toNatClampNeg - (16 : Int32).toNatClampNeg - (16 : Int32).toNatClampNeg - (16 : Int32).toNatClampNeg - (16 : Int32).toNatClampNeg - (1920 : Int32).toNatClampNeg - (1920 : Int32).toNatClampNeg - (64 : Int32).toNatClampNeg - (1920 : Int32).toNatClampNeg - (30720 : Int32).toNatClampNeg - (16 : Int32).toNatClampNeg - (100 : Int32).toNatClampNeg - (500 : Int32).toNatClampNeg - (16 : Int32).toNatClampNeg - (16 : Int32).toNatClampNeg - (15360 : Int32).toNatClampNeg - (1500 : Int32).toNatClampNeg - (101 : Int32).toNatClampNeg - (101 : Int32).toNatClampNeg - (180600 : Int32).toNatClampNeg - (64 : Int32).toNatClampNeg - (64 : Int32).toNatClampNeg - (64 : Int32).toNatClampNeg - (64 : Int32).toNatClampNeg - (64 : Int32).toNatClampNeg - (64 : Int32).toNatClampNeg - (64 : Int32).toNatClampNeg - (512 : Int32).toNatClampNeg) ∧ ∀ M82 : eM, M82 = e_new M81 20 (512 : Int32).toNatClampNeg → e_ob M82 l0 12 ∧ ∀ M83 : eM, M83 = e_sr M82 l0 69 M81.1 → ¬ (2100 : Int32) < 0 ∧ (2100 : Int32).toNatClampNeg ≤ 400000 ∧ 1 ≤ (kc - 1 - 1 - 1 - 1 - 1 - 1 - 1 - 1 - 1 - 1 - 1 - 1 - 1 - 1 - 1 - 1 - 1 - 1 - 1 - 1 - 1 - 1 - 1 - 1 - 1 - 1 - 1 - 1 - 1 - 1 - 1 - 1 - 1 - 1 - 1 - 1 - 1 - 1 - 1) ∧ (2100 : Int32).toNatClampNeg ≤ (ks - (1500 : Int32).toNatClampNeg - (1500 : Int32).toNatClampNeg - (1500 : Int32).toNatClampNeg - (8 : Int32).toNatClampNeg - (8 : Int32).toNatClampNeg - (64 : Int32).toNatClampNeg - (8 : Int32).toNatClampNeg - (24 : Int32).toNatClampNeg - (8 : Int32).toNatClampNeg - (16 : Int32).toNatClampNeg - (64 : Int32).toNatClampNeg - (16 : Int32).toNatClampNeg - (16 : Int32).toNatClampNeg - (16 : Int32).toNatClampNeg - (16 : Int32).toNatClampNeg - (1920 : Int32).toNatClampNeg - (1920 : Int32).toNatClampNeg - (64 : Int32).toNatClampNeg - (1920 : Int32).toNatClampNeg - (30720 : Int32).toNatClampNeg - (16 : Int32).toNatClampNeg - (100 : Int32).toNatClampNeg - (500 : Int32).toNatClampNeg - (16 : Int32).toNatClampNeg - (16 : Int32).toNatClampNeg - (15360 : Int32).toNatClampNeg - (1500 : Int32).toNatClampNeg - (101 : Int32).toNatClampNeg - (101 : Int32).toNatClampNeg - (180600 : Int32).toNatClampNeg - (64 : Int32).toNatClampNeg - (64 : Int32).toNatClampNeg - (64 : Int32).toNatClampNeg - (64 : Int32).toNatClampNeg - (64 : Int32).toNatClampNeg - (64 : Int32).toNatClampNeg - (64 : Int32).toNatClampNeg - (512 : Int32).toNatClampNeg - (512 : Int32).toNatClampNeg) ∧ ∀ M84 : eM, M84 = e_new M83 20 (2100 : Int32).toNatClampNeg → e_ob M84 l0 12 ∧ ∀ M85 : eM, M85 = e_sr M84 l0 74 M83.1 → ¬ (2100 : Int32) < 0 ∧ (2100 : Int32).toNatClampNeg ≤ 400000 ∧ 1 ≤ (kc - 1 - 1 - 1 - 1 - 1 - 1 - 1 - 1 - 1 - 1 - 1 - 1 - 1 - 1 - 1 - 1 - 1 - 1 - 1 - 1 - 1 - 1 - 1 - 1 - 1 - 1 - 1 - 1 - 1 - 1 - 1 - 1 - 1 - 1 - 1 - 1 - 1 - 1 - 1 - 1) ∧ (2100 : Int32).toNatClampNeg ≤ (ks - (1500 : Int32).toNatClampNeg - (1500 : Int32).toNatClampNeg - (1500 : Int32).toNatClampNeg - (8 : Int32).toNatClampNeg - (8 : Int32).toNatClampNeg - (64 : Int32).toNatClampNeg - (8 : Int32).toNatClampNeg - (24 : Int32).toNatClampNeg - (8 : Int32).toNatClampNeg - (16 : Int32).toNatClampNeg - (64 : Int32).toNatClampNeg - (16 : Int32).toNatClampNeg - (16 : Int32).toNatClampNeg - (16 : Int32).toNatClampNeg - (16 : Int32).toNatClampNeg - (1920 : Int32).toNatClampNeg - (1920 : Int32).toNatClampNeg - (64 : Int32).toNatClampNeg - (1920 : Int32).toNatClampNeg - (30720 : Int32).toNatClampNeg - (16 : Int32).toNatClampNeg - (100 : Int32).toNatClampNeg - (500 : Int32).toNatClampNeg - (16 : Int32).toNatClampNeg - (16 : Int32).toNatClampNeg - (15360 : Int32).toNatClampNeg - (1500 : Int32).toNatClampNeg - (101 : Int32).toNatClampNeg - (101 : Int32).toNatClampNeg - (180600 : Int32).toNatClampNeg - (64 : Int32).toNatClampNeg - (64 : Int32).toNatClampNeg - (64 : Int32).toNatClampNeg - (64 : Int32).toNatClampNeg - (64 : Int32).toNatClampNeg - (64 : Int32).toNatClampNeg - (64 : Int32).toNatClampNeg - (512 : Int32).toNatClampNeg - (512 : Int32).toNatClampNeg - (2100 : Int32).toNatClampNeg) ∧ ∀ M86 : eM, M86 = e_new M85 20 (2100 : Int32).toNatClampNeg → e_ob M86 l0 12 ∧ ∀ M87 : eM, M87 = e_sr M86 l0 75 M85.1 → ¬ (2100 : Int32) < 0 ∧ (2100 : Int32).toNatClampNeg ≤ 400000 ∧ 1 ≤ (kc - 1 - 1 - 1 - 1 - 1 - 1 - 1 - 1 - 1 - 1 - 1 - 1 - 1 - 1 - 1 - 1 - 1 - 1 - 1 - 1 - 1 - 1 - 1 - 1 - 1 - 1 - 1 - 1 - 1 - 1 - 1 - 1 - 1 - 1 - 1 - 1 - 1 - 1 - 1 - 1 - 1) ∧ (2100 : Int32).toNatClampNeg ≤ (ks - (1500 : Int32).toNatClampNeg - (1500 : Int32).toNatClampNeg - (1500 : Int32).toNatClampNeg - (8 : Int32).toNatClampNeg - (8 : Int32).toNatClampNeg - (64 : Int32).toNatClampNeg - (8 : Int32).toNatClampNeg - (24 : Int32).toNatClampNeg - (8 : Int32).toNatClampNeg - (16 : Int32).toNatClampNeg - (64 : Int32).toNatClampNeg - (16 : Int32).toNatClampNeg - (16 : Int32).toNatClampNeg - (16 : Int32).toNatClampNeg - (16 : Int32).toNatClampNeg - (1920 : Int32).toNatClampNeg - (1920 : Int32).toNatClampNeg - (64 : Int32).toNatClampNeg - (1920 : Int32).toNatClampNeg - (30720 : Int32).toNatClampNeg - (16 : Int32).toNatClampNeg - (100 : Int32).toNatClampNeg - (500 : Int32).toNatClampNeg - (16 : Int32).toNatClampNeg - (16 : Int32).toNatClampNeg - (15360 : Int32).toNatClampNeg - (1500 : Int32).toNatClampNeg - (101 : Int32).toNatClampNeg - (101 : Int32).toNatClampNeg - (180600 : Int32).toNatClampNeg - (64 : Int32).toNatClampNeg - (64 : Int32).toNatClampNeg - (64 : Int32).toNatClampNeg - (64 : Int32).toNatClampNeg - (64 : Int32).toNatClampNeg - (64 : Int32).toNatClampNeg - (64 : Int32).toNatClampNeg - (512 : Int32).toNatClampNeg - (512 : Int32).toNatClampNeg - (2100 : Int32).toNatClampNeg - (2100 : Int32).toNatClampNeg) ∧ ∀ M88 : eM, M88 = e_new M87 20 (2100 : Int32).toNatClampNeg → e_ob M88 l0 12 ∧ ∀ M89 : eM, M89 = e_sr M88 l0 76 M87.1 → ¬ (2100 : Int32) < 0 ∧ (2100 : Int32).toNatClampNeg ≤ 400000 ∧ 1 ≤ (kc - 1 - 1 - 1 - 1 - 1 - 1 - 1 - 1 - 1 - 1 - 1 - 1 - 1 - 1 - 1 - 1 - 1 - 1 - 1 - 1 - 1 - 1 - 1 - 1 - 1 - 1 - 1 - 1 - 1 - 1 - 1 - 1 - 1 - 1 - 1 - 1 - 1 - 1 - 1 - 1 - 1 - 1) ∧ (2100 : Int32).toNatClampNeg ≤ (ks - (1500 : Int32).toNatClampNeg - (1500 : Int32).toNatClampNeg - (1500 : Int32).toNatClampNeg - (8 : Int32).toNatClampNeg - (8 : Int32).toNatClampNeg - (64 : Int32).toNatClampNeg - (8 : Int32).toNatClampNeg - (24 : Int32).toNatClampNeg - (8 : Int32).toNatClampNeg - (16 : Int32).toNatClampNeg - (64 : Int32).toNatClampNeg - (16 : Int32).toNatClampNeg - (16 : Int32).toNatClampNeg - (16 : Int32).toNatClampNeg - (16 : Int32).toNatClampNeg - (1920 : Int32).toNatClampNeg - (1920 : Int32).toNatClampNeg - (64 : Int32).toNatClampNeg - (1920 : Int32).toNatClampNeg - (30720 : Int32).toNatClampNeg - (16 : Int32).toNatClampNeg - (100 : Int32).toNatClampNeg - (500 : Int32).toNatClampNeg - (16 : Int32).toNatClampNeg - (16 : Int32).toNatClampNeg - (15360 : Int32).toNatClampNeg - (1500 : Int32).toNatClampNeg - (101 : Int32).toNatClampNeg - (101 : Int32).toNatClampNeg - (180600 : Int32).toNatClampNeg - (64 : Int32).toNatClampNeg - (64 : Int32).toNatClampNeg - (64 : Int32).toNatClampNeg - (64 : Int32).toNatClampNeg - (64 : Int32).toNatClampNeg - (64 : Int32).toNatClampNeg - (64 : Int32).toNatClampNeg - (512 : Int32).toNatClampNeg - (512 : Int32).toNatClampNeg - (2100 : Int32).toNatClampNeg - (2100 : Int32).toNatClampNeg - (2100 : Int32).toNatClampNeg) ∧ ∀ M90 : eM, M90 = e_new M89 20 (2100 : Int32).toNatClampNeg → e_ob M90 l0 12 ∧ ∀ M91 : eM, M91 = e_sr M90 l0 77 M89.1 → ¬ (2100 : Int32) < 0 ∧ (2100 : Int32).toNatClampNeg ≤ 400000 ∧ 1 ≤ (kc - 1 - 1 - 1 - 1 - 1 - 1 - 1 - 1 - 1 - 1 - 1 - 1 - 1 - 1 - 1 - 1 - 1 - 1 - 1 - 1 - 1 - 1 - 1 - 1 - 1 - 1 - 1 - 1 - 1 - 1 - 1 - 1 - 1 - 1 - 1 - 1 - 1 - 1 - 1 - 1 - 1 - 1 - 1) ∧ (2100 : Int32).toNatClampNeg ≤ (ks - (1500 : Int32).toNatClampNeg - (1500 : Int32).toNatClampNeg - (1500 : Int32).toNatClampNeg - (8 : Int32).toNatClampNeg - (8 : Int32).toNatClampNeg - (64 : Int32).toNatClampNeg - (8 : Int32).toNatClampNeg - (24 : Int32).toNatClampNeg - (8 : Int32).toNatClampNeg - (16 : Int32).toNatClampNeg - (64 : Int32).toNatClampNeg - (16 : Int32).toNatClampNeg - (16 : Int32).toNatClampNeg - (16 : Int32).toNatClampNeg - (16 : Int32).toNatClampNeg - (1920 : Int32).toNatClampNeg - (1920 : Int32).toNatClampNeg - (64 : Int32).toNatClampNeg - (1920 : Int32).toNatClampNeg - (30720 : Int32).toNatClampNeg - (16 : Int32).toNatClampNeg - (100 : Int32).toNatClampNeg - (500 : Int32).toNatClampNeg - (16 : Int32).toNatClampNeg - (16 : Int32).toNatClampNeg - (15360 : Int32).toNatClampNeg - (1500 : Int32).toNatClampNeg - (101 : Int32).toNatClampNeg - (101 : Int32).toNatClampNeg - (180600 : Int32).toNatClampNeg - (64 : Int32).toNatClampNeg - (64 : Int32).toNatClampNeg - (64 : Int32).toNatClampNeg - (64 : Int32).toNatClampNeg - (64 : Int32).toNatClampNeg - (64 : Int32).toNatClampNeg - (64 : Int32).toNatClampNeg - (512 : Int32).toNatClampNeg - (512 : Int32).toNatClampNeg - (2100 : Int32).toNatClampNeg - (2100 : Int32).toNatClampNeg - (2100 : Int32).toNatClampNeg - (2100 : Int32).toNatClampNeg) ∧ ∀ M92 : eM, M92 = e_new M91 22 (2100 : Int32).toNatClampNeg → e_ob M92 l0 12 ∧ ∀ M93 : eM, M93 = e_sr M92 l0 78 M91.1 → ¬ (4100 : Int32) < 0 ∧ (4100 : Int32).toNatClampNeg ≤ 400000 ∧ 1 ≤ (kc - 1 - 1 - 1 - 1 - 1 - 1 - 1 - 1 - 1 - 1 - 1 - 1 - 1 - 1 - 1 - 1 - 1 - 1 - 1 - 1 - 1 - 1 - 1 - 1 - 1 - 1 - 1 - 1 - 1 - 1 - 1 - 1 - 1 - 1 - 1 - 1 - 1 - 1 - 1 - 1 - 1 - 1 - 1 - 1) ∧ (4100 : Int32).toNatClampNeg ≤ (ks - (1500 : Int32).toNatClampNeg - (1500 : Int32).toNatClampNeg - (1500 : Int32).toNatClampNeg - (8 : Int32).toNatClampNeg - (8 : Int32).toNatClampNeg - (64 : Int32).toNatClampNeg - (8 : Int32).toNatClampNeg - (24 : Int32).toNatClampNeg - (8 : Int32).toNatClampNeg - (16 : Int32).toNatClampNeg - (64 : Int32).toNatClampNeg - (16 : Int32).toNatClampNeg - (16 : Int32).toNatClampNeg - (16 : Int32).toNatClampNeg - (16 : Int32).toNatClampNeg - (1920 : Int32).toNatClampNeg - (1920 : Int32).toNatClampNeg - (64 : Int32).toNatClampNeg - (1920 : Int32).toNatClampNeg - (30720 : Int32).toNatClampNeg - (16 : Int32).toNatClampNeg - (100 : Int32).toNatClampNeg - (500 : Int32).toNatClampNeg - (16 : Int32).toNatClampNeg - (16 : Int32).toNatClampNeg - (15360 : Int32).toNatClampNeg - (1500 : Int32).toNatClampNeg - (101 : Int32).toNatClampNeg - (101 : Int32).toNatClampNeg - (180600 : Int32).toNatClampNeg - (64 : Int32).toNatClampNeg - (64 : Int32).toNatClampNeg - (64 : Int32).toNatClampNeg - (64 : Int32).toNatClampNeg - (64 : Int32).toNatClampNeg - (64 : Int32).toNatClampNeg - (64 : Int32).toNatClampNeg - (512 : Int32).toNatClampNeg - (512 : Int32).toNatClampNeg - (2100 : Int32).toNatClampNeg - (2100 : Int32).toNatClampNeg - (2100 : Int32).toNatClampNeg - (2100 : Int32).toNatClampNeg - (2100 : Int32).toNatClampNeg) ∧ ∀ M94 : eM, M94 = e_new M93 20 (4100 : Int32).toNatClampNeg → e_ob M94 l0 12 ∧ ∀ M95 : eM, M95 = e_sr M94 l0 80 M93.1 → ¬ (6 : Int32) < 0 ∧ (6 : Int32).toNatClampNeg ≤ 400000 ∧ 1 ≤ (kc - 1 - 1 - 1 - 1 - 1 - 1 - 1 - 1 - 1 - 1 - 1 - 1 - 1 - 1 - 1 - 1 - 1 - 1 - 1 - 1 - 1 - 1 - 1 - 1 - 1 - 1 - 1 - 1 - 1 - 1 - 1 - 1 - 1 - 1 - 1 - 1 - 1 - 1 - 1 - 1 - 1 - 1 - 1 - 1 - 1) ∧ (6 : Int32).toNatClampNeg ≤ (ks - (1500 : Int32).toNatClampNeg - (1500 : Int32).toNatClampNeg - (1500 : Int32).toNatClampNeg - (8 : Int32).toNatClampNeg - (8 : Int32).toNatClampNeg - (64 : Int32).toNatClampNeg - (8 : Int32).toNatClampNeg - (24 : Int32).toNatClampNeg - (8 : Int32).toNatClampNeg - (16 : Int32).toNatClampNeg - (64 : Int32).toNatClampNeg - (16 : Int32).toNatClampNeg - (16 : Int32).toNatClampNeg - (16 : Int32).toNatClampNeg - (16 : Int32).toNatClampNeg - (1920 : Int32).toNatClampNeg - (1920 : Int32).toNatClampNeg - (64 : Int32).toNatClampNeg - (1920 : Int32).toNatClampNeg - (30720 : Int32).toNatClampNeg - (16 : Int32).toNatClampNeg - (100 : Int32).toNatClampNeg - (500 : Int32).toNatClampNeg - (16 : Int32).toNatClampNeg - (16 : Int32).toNatClampNeg - (15360 : Int32).toNatClampNeg - (1500 : Int32).toNatClampNeg - (101 : Int32).toNatClampNeg - (101 : Int32).toNatClampNeg - (180600 : Int32).toNatClampNeg - (64 : Int32).toNatClampNeg - (64 : Int32).toNatClampNeg - (64 : Int32).toNatClampNeg - (64 : Int32).toNatClampNeg - (64 : Int32).toNatClampNeg - (64 : Int32).toNatClampNeg - (64 : Int32).toNatClampNeg - (512 : Int32).toNatClampNeg - (512 : Int32).toNatClampNeg - (2100 : Int32).toNatClampNeg - (2100 : Int32).toNatClampNeg - (2100 : Int32).toNatClampNeg - (2100 : Int32).toNatClampNeg - (2100 : Int32).toNatClampNeg - (4100 : Int32).toNatClampNeg) ∧ ∀ M96 : eM, M96 = e_new M95 20 (6 : Int32).toNatClampNeg → e_ob M96 l0 12 ∧ ∀ M97 : eM, M97 = e_sr M96 l0 83 M95.1 → ¬ (6 : Int32) < 0 ∧ (6 : Int32).toNatClampNeg ≤ 400000 ∧ 1 ≤ (kc - 1 - 1 - 1 - 1 - 1 - 1 - 1 - 1 - 1 - 1 - 1 - 1 - 1 - 1 - 1 - 1 - 1 - 1 - 1 - 1 - 1 - 1 - 1 - 1 - 1 - 1 - 1 - 1 - 1 - 1 - 1 - 1 - 1 - 1 - 1 - 1 - 1 - 1 - 1 - 1 - 1 - 1 - 1 - 1 - 1 - 1) ∧ (6 : Int32).toNatClampNeg ≤ (ks - (1500 : Int32).toNatClampNeg - (1500 : Int32).toNatClampNeg - (1500 : Int32).toNatClampNeg - (8 : Int32).toNatClampNeg - (8 : Int32).toNatClampNeg - (64 : Int32).toNatClampNeg - (8 : Int32).toNatClampNeg - (24 : Int32).toNatClampNeg - (8 : Int32).toNatClampNeg - (16 : Int32).toNatClampNeg - (64 : Int32).toNatClampNeg - (16 : Int32).toNatClampNeg - (16 : Int32).toNatClampNeg - (16 : Int32).toNatClampNeg - (16 : Int32).toNatClampNeg - (1920 : Int32).toNatClampNeg - (1920 : Int32).toNatClampNeg - (64 : Int32).toNatClampNeg - (1920 : Int32).toNatClampNeg - (30720 : Int32).toNatClampNeg - (16 : Int32).toNatClampNeg - (100 : Int32).toNatClampNeg - (500 : Int32).toNatClampNeg - (16 : Int32).toNatClampNeg - (16 : Int32).toNatClampNeg - (15360 : Int32).toNatClampNeg - (1500 : Int32).toNatClampNeg - (101 : Int32).toNatClampNeg - (101 : Int32).toNatClampNeg - (180600 : Int32).toNatClampNeg - (64 : Int32).toNatClampNeg - (64 : Int32).toNatClampNeg - (64 : Int32).toNatClampNeg - (64 : Int32).toNatClampNeg - (64 : Int32).toNatClampNeg - (64 : Int32).toNatClampNeg - (64 : Int32).toNatClampNeg - (512 : Int32).toNatClampNeg - (512 : Int32).toNatClampNeg - (2100 : Int32).toNatClampNeg - (2100 : Int32).toNatClampNeg - (2100 : Int32).toNatClampNeg - (2100 : Int32).toNatClampNeg - (2100 : Int32).toNatClampNeg - (4100 : Int32).toNatClampNeg - (6 : Int32).toNatClampNeg) ∧ ∀ M98 : eM, M98 = e_new M97 20 (6 : Int32).toNatClampNeg → e_ob M98 l0 12 ∧ ∀ M99 : eM, M99 = e_sr M98 l0 84 M97.1 → ¬ (6 : Int32) < 0 ∧ (6 : Int32).toNatClampNeg ≤ 400000 ∧ 1 ≤ (kc - 1 - 1 - 1 - 1 - 1 - 1 - 1 - 1 - 1 - 1 - 1 - 1 - 1 - 1 - 1 - 1 - 1 - 1 - 1 - 1 - 1 - 1 - 1 - 1 - 1 - 1 - 1 - 1 - 1 - 1 - 1 - 1 - 1 - 1 - 1 - 1 - 1 - 1 - 1 - 1 - 1 - 1 - 1 - 1 - 1 - 1 - 1) ∧ (6 : Int32).toNatClampNeg ≤ (ks - (1500 : Int32).toNatClampNeg - (1500 : Int32).toNatClampNeg - (1500 : Int32).toNatClampNeg - (8 : Int32).toNatClampNeg - (8 : Int32).toNatClampNeg - (64 : Int32).toNatClampNeg - (8 : Int32).toNatClampNeg - (24 : Int32).toNatClampNeg - (8 : Int32).toNatClampNeg - (16 : Int32).toNatClampNeg - (64 : Int32).toNatClampNeg - (16 : Int32).toNatClampNeg - (16 : Int32).toNatClampNeg - (16 : Int32).toNatClampNeg - (16 : Int32).toNatClampNeg - (1920 : Int32).toNatClampNeg - (1920 : Int32).toNatClampNeg - (64 : Int32).toNatClampNeg - (1920 : Int32).toNatClampNeg - (30720 : Int32).toNatClampNeg - (16 : Int32).toNatClampNeg - (100 : Int32).toNatClampNeg - (500 : Int32).toNatClampNeg - (16 : Int32).toNatClampNeg - (16 : Int32).toNatClampNeg - (15360 : Int32).toNatClampNeg - (1500 : Int32).toNatClampNeg - (101 : Int32).toNatClampNeg - (101 : Int32).toNatClampNeg - (180600 : Int32).toNatClampNeg - (64 : Int32).toNatClampNeg - (64 : Int32).toNatClampNeg - (64 : Int32).toNatClampNeg - (64 : Int32).toNatClampNeg - (64 : Int32).toNatClampNeg - (64 : Int32).toNatClampNeg - (64 : Int32).toNatClampNeg - (512 : Int32).toNatClampNeg - (512 : Int32).toNatClampNeg - (2100 : Int32).toNatClampNeg - (2100 : Int32).toNatClampNeg - (2100 : Int32).toNatClampNeg - (2100 : Int32).toNatClampNeg - (2100 : Int32).toNatClampNeg - (4100 : Int32).toNatClampNeg - (6 : Int32).toNatClampNeg - (6 : Int32).toNatClampNeg) ∧ ∀ M100 : eM, M100 = e_new M99 20 (6 : Int32).toNatClampNeg → e_ob M100 l0 12 ∧ ∀ M101 : eM, M101 = e_sr M100 l0 85 M99.1 → ¬ (2100 : Int32) < 0 ∧ (2100 : Int32).toNatClampNeg ≤ 400000 ∧ 1 ≤ (kc - 1 - 1 - 1 - 1 - 1 - 1 - 1 - 1 - 1 - 1 - 1 - 1 - 1 - 1 - 1 - 1 - 1 - 1 - 1 - 1 - 1 - 1 - 1 - 1 - 1 - 1 - 1 - 1 - 1 - 1 - 1 - 1 - 1 - 1 - 1 - 1 - 1 - 1 - 1 - 1 - 1 - 1 - 1 - 1 - 1 - 1 - 1 - 1) ∧ (2100 : Int32).toNatClampNeg ≤ (ks - (1500 : Int32).toNatClampNeg - (1500 : Int32).toNatClampNeg - (1500 : Int32).toNatClampNeg - (8 : Int32).toNatClampNeg - (8 : Int32).toNatClampNeg - (64 : Int32).toNatClampNeg - (8 : Int32).toNatClampNeg - (24 : Int32).toNatClampNeg - (8 : Int32).toNatClampNeg - (16 : Int32).toNatClampNeg - (64 : Int32).toNatClampNeg - (16 : Int32).toNatClampNeg - (16 : Int32).toNatClampNeg - (16 : Int32).toNatClampNeg - (16 : Int32).toNatClampNeg - (1920 : Int32).toNatClampNeg - (1920 : Int32).toNatClampNeg - (64 : Int32).toNatClampNeg - (1920 : Int32).toNatClampNeg - (30720 : Int32).toNatClampNeg - (16 : Int32).toNatClampNeg - (100 : Int32).toNatClampNeg - (500 : Int32).toNatClampNeg - (16 : Int32).toNatClampNeg - (16 : Int32).toNatClampNeg - (15360 : Int32).toNatClampNeg - (1500 : Int32).toNatClampNeg - (101 : Int32).toNatClampNeg - (101 : Int32).toNatClampNeg - (180600 : Int32).toNatClampNeg - (64 : Int32).toNatClampNeg - (64 : Int32).toNatClampNeg - (64 : Int32).toNatClampNeg - (64 : Int32).toNatClampNeg - (64 : Int32).toNatClampNeg - (64 : Int32).toNatClampNeg - (64 : Int32).toNatClampNeg - (512 : Int32).toNatClampNeg - (512 : Int32).toNatClampNeg - (2100 : Int32).toNatClampNeg - (2100 : Int32).toNatClampNeg - (2100 : Int32).toNatClampNeg - (2100 : Int32).toNatClampNeg - (2100 : Int32).toNatClampNeg - (4100 : Int32).toNatClampNeg - (6 : Int32).toNatClampNeg - (6 : Int32).toNatClampNeg - (6 : Int32).toNatClampNeg) ∧ ∀ M102 : eM, M102 = e_new M101 20 (2100 : Int32).toNatClampNeg → e_ob M102 l0 12 ∧ ∀ M103 : eM, M103 = e_sr M102 l0 89 M101.1 → Q M103
set_option maxRecDepth 100000 in
theorem b_Mod_init {d : Nat} {kc ks : Nat} {l0 : Nat} {M : eM} {Q : eM → Prop} (hd : 0 ≤ d) (h : w_Mod_init kc ks l0 M Q) : e_CV 142 d kc ks [.ref l0] M Q := by
  unfold w_Mod_init at h
  show e_E 142 d kc ks 0 [(0, .ref l0)] [] M (e_QV Q)
  refine r_aload_n (kd142 rfl) rfl rfl ?_
  obtain ⟨g, h⟩ := h
  refine r_objInit (kd142 rfl) g (Nat.le_of_ble_eq_true rfl) rfl ?_
  refine r_aload_n (kd142 rfl) rfl rfl ?_
  refine r_sipush (kd142 rfl) (y := 1500) (by decide) rfl ?_
  obtain ⟨g0, g3, g1, g2, h⟩ := h
  have h := h _ rfl
  refine r_newarray (kd142 rfl) (by decide) g0 g3 g1 g2 rfl ?_
  obtain ⟨g, h⟩ := h
  have h := h _ rfl
  refine r_put2 (kd142 rfl) (by decide) rfl g rfl ?_
  refine r_aload_n (kd142 rfl) rfl rfl ?_
  refine r_sipush (kd142 rfl) (y := 1500) (by decide) rfl ?_
  obtain ⟨g0, g3, g1, g2, h⟩ := h
  have h := h _ rfl
  refine r_newarray (kd142 rfl) (by decide) g0 g3 g1 g2 rfl ?_
  obtain ⟨g, h⟩ := h
  have h := h _ rfl
  refine r_put2 (kd142 rfl) (by decide) rfl g rfl ?_
  refine r_aload_n (kd142 rfl) rfl rfl ?_
  refine r_sipush (kd142 rfl) (y := 1500) (by decide) rfl ?_
  obtain ⟨g0, g3, g1, g2, h⟩ := h
  have h := h _ rfl
  refine r_newarray (kd142 rfl) (by decide) g0 g3 g1 g2 rfl ?_
  obtain ⟨g, h⟩ := h
  have h := h _ rfl
  refine r_put2 (kd142 rfl) (by decide) rfl g rfl ?_
  refine r_aload_n (kd142 rfl) rfl rfl ?_
  refine r_bipush (kd142 rfl) (y := 8) (by decide) rfl ?_
  obtain ⟨g0, g3, g1, g2, h⟩ := h
  have h := h _ rfl
  refine r_newarray (kd142 rfl) (by decide) g0 g3 g1 g2 rfl ?_
  obtain ⟨g, h⟩ := h
  have h := h _ rfl
  refine r_put2 (kd142 rfl) (by decide) rfl g rfl ?_
  refine r_aload_n (kd142 rfl) rfl rfl ?_
  refine r_bipush (kd142 rfl) (y := 8) (by decide) rfl ?_
  obtain ⟨g0, g3, g1, g2, h⟩ := h
  have h := h _ rfl
  refine r_newarray (kd142 rfl) (by decide) g0 g3 g1 g2 rfl ?_
  obtain ⟨g, h⟩ := h
  have h := h _ rfl
  refine r_put2 (kd142 rfl) (by decide) rfl g rfl ?_
  refine r_aload_n (kd142 rfl) rfl rfl ?_
  refine r_bipush (kd142 rfl) (y := 64) (by decide) rfl ?_
  obtain ⟨g0, g3, g1, g2, h⟩ := h
  have h := h _ rfl
  refine r_newarray (kd142 rfl) (by decide) g0 g3 g1 g2 rfl ?_
  obtain ⟨g, h⟩ := h
  have h := h _ rfl
  refine r_put2 (kd142 rfl) (by decide) rfl g rfl ?_
  refine r_aload_n (kd142 rfl) rfl rfl ?_
  refine r_bipush (kd142 rfl) (y := 8) (by decide) rfl ?_
  obtain ⟨g0, g3, g1, g2, h⟩ := h
  have h := h _ rfl
  refine r_newarray (kd142 rfl) (by decide) g0 g3 g1 g2 rfl ?_
  obtain ⟨g, h⟩ := h
  have h := h _ rfl
  refine r_put2 (kd142 rfl) (by decide) rfl g rfl ?_
  refine r_aload_n (kd142 rfl) rfl rfl ?_
  refine r_bipush (kd142 rfl) (y := 24) (by decide) rfl ?_
  obtain ⟨g0, g3, g1, g2, h⟩ := h
  have h := h _ rfl
  refine r_newarray (kd142 rfl) (by decide) g0 g3 g1 g2 rfl ?_
  obtain ⟨g, h⟩ := h
  have h := h _ rfl
  refine r_put2 (kd142 rfl) (by decide) rfl g rfl ?_
  refine r_aload_n (kd142 rfl) rfl rfl ?_
  refine r_bipush (kd142 rfl) (y := 8) (by decide) rfl ?_
  obtain ⟨g0, g3, g1, g2, h⟩ := h
  have h := h _ rfl
  refine r_newarray (kd142 rfl) (by decide) g0 g3 g1 g2 rfl ?_
  obtain ⟨g, h⟩ := h
  have h := h _ rfl
  refine r_put2 (kd142 rfl) (by decide) rfl g rfl ?_
  refine r_aload_n (kd142 rfl) rfl rfl ?_
  refine r_bipush (kd142 rfl) (y := 16) (by decide) rfl ?_
  obtain ⟨g0, g3, g1, g2, h⟩ := h
  have h := h _ rfl
  refine r_newarray (kd142 rfl) (by decide) g0 g3 g1 g2 rfl ?_
  obtain ⟨g, h⟩ := h
  have h := h _ rfl
  refine r_put2 (kd142 rfl) (by decide) rfl g rfl ?_
  refine r_aload_n (kd142 rfl) rfl rfl ?_
  refine r_bipush (kd142 rfl) (y := 64) (by decide) rfl ?_
  obtain ⟨g0, g3, g1, g2, h⟩ := h
  have h := h _ rfl
  refine r_newarray (kd142 rfl) (by decide) g0 g3 g1 g2 rfl ?_
  obtain ⟨g, h⟩ := h
  have h := h _ rfl
  refine r_put2 (kd142 rfl) (by decide) rfl g rfl ?_
  refine r_aload_n (kd142 rfl) rfl rfl ?_
  refine r_bipush (kd142 rfl) (y := 16) (by decide) rfl ?_
  obtain ⟨g0, g3, g1, g2, h⟩ := h
  have h := h _ rfl
  refine r_newarray (kd142 rfl) (by decide) g0 g3 g1 g2 rfl ?_
  obtain ⟨g, h⟩ := h
  have h := h _ rfl
  refine r_put2 (kd142 rfl) (by decide) rfl g rfl ?_
  refine r_aload_n (kd142 rfl) rfl rfl ?_
  refine r_bipush (kd142 rfl) (y := 16) (by decide) rfl ?_
  obtain ⟨g0, g3, g1, g2, h⟩ := h
  have h := h _ rfl
  refine r_newarray (kd142 rfl) (by decide) g0 g3 g1 g2 rfl ?_
  obtain ⟨g, h⟩ := h
  have h := h _ rfl
  refine r_put2 (kd142 rfl) (by decide) rfl g rfl ?_
  refine r_aload_n (kd142 rfl) rfl rfl ?_
  refine r_bipush (kd142 rfl) (y := 16) (by decide) rfl ?_
  obtain ⟨g0, g3, g1, g2, h⟩ := h
  have h := h _ rfl
  refine r_newarray (kd142 rfl) (by decide) g0 g3 g1 g2 rfl ?_
  obtain ⟨g, h⟩ := h
  have h := h _ rfl
  refine r_put2 (kd142 rfl) (by decide) rfl g rfl ?_
  refine r_aload_n (kd142 rfl) rfl rfl ?_
  refine r_bipush (kd142 rfl) (y := 16) (by decide) rfl ?_
  obtain ⟨g0, g3, g1, g2, h⟩ := h
  have h := h _ rfl
  refine r_newarray (kd142 rfl) (by decide) g0 g3 g1 g2 rfl ?_
  obtain ⟨g, h⟩ := h
  have h := h _ rfl
  refine r_put2 (kd142 rfl) (by decide) rfl g rfl ?_
  refine r_aload_n (kd142 rfl) rfl rfl ?_
  refine r_sipush (kd142 rfl) (y := 1920) (by decide) rfl ?_
  obtain ⟨g0, g3, g1, g2, h⟩ := h
  have h := h _ rfl
  refine r_newarray (kd142 rfl) (by decide) g0 g3 g1 g2 rfl ?_
  obtain ⟨g, h⟩ := h
  have h := h _ rfl
  refine r_put2 (kd142 rfl) (by decide) rfl g rfl ?_
  refine r_aload_n (kd142 rfl) rfl rfl ?_
  refine r_sipush (kd142 rfl) (y := 1920) (by decide) rfl ?_
  obtain ⟨g0, g3, g1, g2, h⟩ := h
  have h := h _ rfl
  refine r_newarray (kd142 rfl) (by decide) g0 g3 g1 g2 rfl ?_
  obtain ⟨g, h⟩ := h
  have h := h _ rfl
  refine r_put2 (kd142 rfl) (by decide) rfl g rfl ?_
  refine r_aload_n (kd142 rfl) rfl rfl ?_
  refine r_bipush (kd142 rfl) (y := 64) (by decide) rfl ?_
  obtain ⟨g0, g3, g1, g2, h⟩ := h
  have h := h _ rfl
  refine r_newarray (kd142 rfl) (by decide) g0 g3 g1 g2 rfl ?_
  obtain ⟨g, h⟩ := h
  have h := h _ rfl
  refine r_put2 (kd142 rfl) (by decide) rfl g rfl ?_
  refine r_aload_n (kd142 rfl) rfl rfl ?_
  refine r_sipush (kd142 rfl) (y := 1920) (by decide) rfl ?_
  obtain ⟨g0, g3, g1, g2, h⟩ := h
  have h := h _ rfl
  refine r_newarray (kd142 rfl) (by decide) g0 g3 g1 g2 rfl ?_
  obtain ⟨g, h⟩ := h
  have h := h _ rfl
  refine r_put2 (kd142 rfl) (by decide) rfl g rfl ?_
  refine r_aload_n (kd142 rfl) rfl rfl ?_
  refine r_sipush (kd142 rfl) (y := 30720) (by decide) rfl ?_
  obtain ⟨g0, g3, g1, g2, h⟩ := h
  have h := h _ rfl
  refine r_newarray (kd142 rfl) (by decide) g0 g3 g1 g2 rfl ?_
  obtain ⟨g, h⟩ := h
  have h := h _ rfl
  refine r_put2 (kd142 rfl) (by decide) rfl g rfl ?_
  refine r_aload_n (kd142 rfl) rfl rfl ?_
  refine r_bipush (kd142 rfl) (y := 16) (by decide) rfl ?_
  obtain ⟨g0, g3, g1, g2, h⟩ := h
  have h := h _ rfl
  refine r_newarray (kd142 rfl) (by decide) g0 g3 g1 g2 rfl ?_
  obtain ⟨g, h⟩ := h
  have h := h _ rfl
  refine r_put2 (kd142 rfl) (by decide) rfl g rfl ?_
  refine r_aload_n (kd142 rfl) rfl rfl ?_
  refine r_iconst (kd142 rfl) (y := 3) (by decide) rfl ?_
  obtain ⟨g, h⟩ := h
  have h := h _ rfl
  refine r_put0 (kd142 rfl) (by decide) rfl g rfl ?_
  refine r_aload_n (kd142 rfl) rfl rfl ?_
  refine r_iconst (kd142 rfl) (y := 2) (by decide) rfl ?_
  obtain ⟨g, h⟩ := h
  have h := h _ rfl
  refine r_put0 (kd142 rfl) (by decide) rfl g rfl ?_
  refine r_aload_n (kd142 rfl) rfl rfl ?_
  refine r_iconst (kd142 rfl) (y := 2) (by decide) rfl ?_
  obtain ⟨g, h⟩ := h
  have h := h _ rfl
  refine r_put0 (kd142 rfl) (by decide) rfl g rfl ?_
  refine r_aload_n (kd142 rfl) rfl rfl ?_
  refine r_bipush (kd142 rfl) (y := 40) (by decide) rfl ?_
  obtain ⟨g, h⟩ := h
  have h := h _ rfl
  refine r_put0 (kd142 rfl) (by decide) rfl g rfl ?_
  refine r_aload_n (kd142 rfl) rfl rfl ?_
  refine r_sipush (kd142 rfl) (y := 500) (by decide) rfl ?_
  obtain ⟨g, h⟩ := h
  have h := h _ rfl
  refine r_put0 (kd142 rfl) (by decide) rfl g rfl ?_
  refine r_aload_n (kd142 rfl) rfl rfl ?_
  refine r_bipush (kd142 rfl) (y := 100) (by decide) rfl ?_
  obtain ⟨g0, g3, g1, g2, h⟩ := h
  have h := h _ rfl
  refine r_newarray (kd142 rfl) (by decide) g0 g3 g1 g2 rfl ?_
  obtain ⟨g, h⟩ := h
  have h := h _ rfl
  refine r_put2 (kd142 rfl) (by decide) rfl g rfl ?_
  refine r_aload_n (kd142 rfl) rfl rfl ?_
  refine r_sipush (kd142 rfl) (y := 500) (by decide) rfl ?_
  obtain ⟨g0, g3, g1, g2, h⟩ := h
  have h := h _ rfl
  refine r_newarray (kd142 rfl) (by decide) g0 g3 g1 g2 rfl ?_
  obtain ⟨g, h⟩ := h
  have h := h _ rfl
  refine r_put2 (kd142 rfl) (by decide) rfl g rfl ?_
  refine r_aload_n (kd142 rfl) rfl rfl ?_
  refine r_bipush (kd142 rfl) (y := 16) (by decide) rfl ?_
  obtain ⟨g0, g3, g1, g2, h⟩ := h
  have h := h _ rfl
  refine r_newarray (kd142 rfl) (by decide) g0 g3 g1 g2 rfl ?_
  obtain ⟨g, h⟩ := h
  have h := h _ rfl
  refine r_put2 (kd142 rfl) (by decide) rfl g rfl ?_
  refine r_aload_n (kd142 rfl) rfl rfl ?_
  refine r_bipush (kd142 rfl) (y := 16) (by decide) rfl ?_
  obtain ⟨g0, g3, g1, g2, h⟩ := h
  have h := h _ rfl
  refine r_newarray (kd142 rfl) (by decide) g0 g3 g1 g2 rfl ?_
  obtain ⟨g, h⟩ := h
  have h := h _ rfl
  refine r_put2 (kd142 rfl) (by decide) rfl g rfl ?_
  refine r_aload_n (kd142 rfl) rfl rfl ?_
  refine r_sipush (kd142 rfl) (y := 15360) (by decide) rfl ?_
  obtain ⟨g0, g3, g1, g2, h⟩ := h
  have h := h _ rfl
  refine r_newarray (kd142 rfl) (by decide) g0 g3 g1 g2 rfl ?_
  obtain ⟨g, h⟩ := h
  have h := h _ rfl
  refine r_put2 (kd142 rfl) (by decide) rfl g rfl ?_
  refine r_aload_n (kd142 rfl) rfl rfl ?_
  refine r_sipush (kd142 rfl) (y := 1500) (by decide) rfl ?_
  obtain ⟨g0, g3, g1, g2, h⟩ := h
  have h := h _ rfl
  refine r_newarray (kd142 rfl) (by decide) g0 g3 g1 g2 rfl ?_
  obtain ⟨g, h⟩ := h
  have h := h _ rfl
  refine r_put2 (kd142 rfl) (by decide) rfl g rfl ?_
  refine r_aload_n (kd142 rfl) rfl rfl ?_
  refine r_bipush (kd142 rfl) (y := 101) (by decide) rfl ?_
  obtain ⟨g0, g3, g1, g2, h⟩ := h
  have h := h _ rfl
  refine r_newarray (kd142 rfl) (by decide) g0 g3 g1 g2 rfl ?_
  obtain ⟨g, h⟩ := h
  have h := h _ rfl
  refine r_put2 (kd142 rfl) (by decide) rfl g rfl ?_
  refine r_aload_n (kd142 rfl) rfl rfl ?_
  refine r_bipush (kd142 rfl) (y := 101) (by decide) rfl ?_
  obtain ⟨g0, g3, g1, g2, h⟩ := h
  have h := h _ rfl
  refine r_newarray (kd142 rfl) (by decide) g0 g3 g1 g2 rfl ?_
  obtain ⟨g, h⟩ := h
  have h := h _ rfl
  refine r_put2 (kd142 rfl) (by decide) rfl g rfl ?_
  refine r_aload_n (kd142 rfl) rfl rfl ?_
  refine r_ldc (kd142 rfl) (y := 180600) (by decide) rfl ?_
  obtain ⟨g0, g3, g1, g2, h⟩ := h
  have h := h _ rfl
  refine r_newarray (kd142 rfl) (by decide) g0 g3 g1 g2 rfl ?_
  obtain ⟨g, h⟩ := h
  have h := h _ rfl
  refine r_put2 (kd142 rfl) (by decide) rfl g rfl ?_
  refine r_aload_n (kd142 rfl) rfl rfl ?_
  refine r_bipush (kd142 rfl) (y := 64) (by decide) rfl ?_
  obtain ⟨g0, g3, g1, g2, h⟩ := h
  have h := h _ rfl
  refine r_newarray (kd142 rfl) (by decide) g0 g3 g1 g2 rfl ?_
  obtain ⟨g, h⟩ := h
  have h := h _ rfl
  refine r_put2 (kd142 rfl) (by decide) rfl g rfl ?_
  refine r_aload_n (kd142 rfl) rfl rfl ?_
  refine r_bipush (kd142 rfl) (y := 64) (by decide) rfl ?_
  obtain ⟨g0, g3, g1, g2, h⟩ := h
  have h := h _ rfl
  refine r_newarray (kd142 rfl) (by decide) g0 g3 g1 g2 rfl ?_
  obtain ⟨g, h⟩ := h
  have h := h _ rfl
  refine r_put2 (kd142 rfl) (by decide) rfl g rfl ?_
  refine r_aload_n (kd142 rfl) rfl rfl ?_
  refine r_bipush (kd142 rfl) (y := 64) (by decide) rfl ?_
  obtain ⟨g0, g3, g1, g2, h⟩ := h
  have h := h _ rfl
  refine r_newarray (kd142 rfl) (by decide) g0 g3 g1 g2 rfl ?_
  obtain ⟨g, h⟩ := h
  have h := h _ rfl
  refine r_put2 (kd142 rfl) (by decide) rfl g rfl ?_
  refine r_aload_n (kd142 rfl) rfl rfl ?_
  refine r_bipush (kd142 rfl) (y := 64) (by decide) rfl ?_
  obtain ⟨g0, g3, g1, g2, h⟩ := h
  have h := h _ rfl
  refine r_newarray (kd142 rfl) (by decide) g0 g3 g1 g2 rfl ?_
  obtain ⟨g, h⟩ := h
  have h := h _ rfl
  refine r_put2 (kd142 rfl) (by decide) rfl g rfl ?_
  refine r_aload_n (kd142 rfl) rfl rfl ?_
  refine r_bipush (kd142 rfl) (y := 64) (by decide) rfl ?_
  obtain ⟨g0, g3, g1, g2, h⟩ := h
  have h := h _ rfl
  refine r_newarray (kd142 rfl) (by decide) g0 g3 g1 g2 rfl ?_
  obtain ⟨g, h⟩ := h
  have h := h _ rfl
  refine r_put2 (kd142 rfl) (by decide) rfl g rfl ?_
  refine r_aload_n (kd142 rfl) rfl rfl ?_
  refine r_bipush (kd142 rfl) (y := 64) (by decide) rfl ?_
  obtain ⟨g0, g3, g1, g2, h⟩ := h
  have h := h _ rfl
  refine r_newarray (kd142 rfl) (by decide) g0 g3 g1 g2 rfl ?_
  obtain ⟨g, h⟩ := h
  have h := h _ rfl
  refine r_put2 (kd142 rfl) (by decide) rfl g rfl ?_
  refine r_aload_n (kd142 rfl) rfl rfl ?_
  refine r_bipush (kd142 rfl) (y := 64) (by decide) rfl ?_
  obtain ⟨g0, g3, g1, g2, h⟩ := h
  have h := h _ rfl
  refine r_newarray (kd142 rfl) (by decide) g0 g3 g1 g2 rfl ?_
  obtain ⟨g, h⟩ := h
  have h := h _ rfl
  refine r_put2 (kd142 rfl) (by decide) rfl g rfl ?_
  refine r_aload_n (kd142 rfl) rfl rfl ?_
  refine r_sipush (kd142 rfl) (y := 512) (by decide) rfl ?_
  obtain ⟨g0, g3, g1, g2, h⟩ := h
  have h := h _ rfl
  refine r_newarray (kd142 rfl) (by decide) g0 g3 g1 g2 rfl ?_
  obtain ⟨g, h⟩ := h
  have h := h _ rfl
  refine r_put2 (kd142 rfl) (by decide) rfl g rfl ?_
  refine r_aload_n (kd142 rfl) rfl rfl ?_
  refine r_sipush (kd142 rfl) (y := 512) (by decide) rfl ?_
  obtain ⟨g0, g3, g1, g2, h⟩ := h
  have h := h _ rfl
  refine r_newarray (kd142 rfl) (by decide) g0 g3 g1 g2 rfl ?_
  obtain ⟨g, h⟩ := h
  have h := h _ rfl
  refine r_put2 (kd142 rfl) (by decide) rfl g rfl ?_
  refine r_aload_n (kd142 rfl) rfl rfl ?_
  refine r_sipush (kd142 rfl) (y := 2100) (by decide) rfl ?_
  obtain ⟨g0, g3, g1, g2, h⟩ := h
  have h := h _ rfl
  refine r_newarray (kd142 rfl) (by decide) g0 g3 g1 g2 rfl ?_
  obtain ⟨g, h⟩ := h
  have h := h _ rfl
  refine r_put2 (kd142 rfl) (by decide) rfl g rfl ?_
  refine r_aload_n (kd142 rfl) rfl rfl ?_
  refine r_sipush (kd142 rfl) (y := 2100) (by decide) rfl ?_
  obtain ⟨g0, g3, g1, g2, h⟩ := h
  have h := h _ rfl
  refine r_newarray (kd142 rfl) (by decide) g0 g3 g1 g2 rfl ?_
  obtain ⟨g, h⟩ := h
  have h := h _ rfl
  refine r_put2 (kd142 rfl) (by decide) rfl g rfl ?_
  refine r_aload_n (kd142 rfl) rfl rfl ?_
  refine r_sipush (kd142 rfl) (y := 2100) (by decide) rfl ?_
  obtain ⟨g0, g3, g1, g2, h⟩ := h
  have h := h _ rfl
  refine r_newarray (kd142 rfl) (by decide) g0 g3 g1 g2 rfl ?_
  obtain ⟨g, h⟩ := h
  have h := h _ rfl
  refine r_put2 (kd142 rfl) (by decide) rfl g rfl ?_
  refine r_aload_n (kd142 rfl) rfl rfl ?_
  refine r_sipush (kd142 rfl) (y := 2100) (by decide) rfl ?_
  obtain ⟨g0, g3, g1, g2, h⟩ := h
  have h := h _ rfl
  refine r_newarray (kd142 rfl) (by decide) g0 g3 g1 g2 rfl ?_
  obtain ⟨g, h⟩ := h
  have h := h _ rfl
  refine r_put2 (kd142 rfl) (by decide) rfl g rfl ?_
  refine r_aload_n (kd142 rfl) rfl rfl ?_
  refine r_sipush (kd142 rfl) (y := 2100) (by decide) rfl ?_
  obtain ⟨g0, g3, g1, g2, h⟩ := h
  have h := h _ rfl
  refine r_newarray (kd142 rfl) (by decide) g0 g3 g1 g2 rfl ?_
  obtain ⟨g, h⟩ := h
  have h := h _ rfl
  refine r_put2 (kd142 rfl) (by decide) rfl g rfl ?_
  refine r_aload_n (kd142 rfl) rfl rfl ?_
  refine r_sipush (kd142 rfl) (y := 4100) (by decide) rfl ?_
  obtain ⟨g0, g3, g1, g2, h⟩ := h
  have h := h _ rfl
  refine r_newarray (kd142 rfl) (by decide) g0 g3 g1 g2 rfl ?_
  obtain ⟨g, h⟩ := h
  have h := h _ rfl
  refine r_put2 (kd142 rfl) (by decide) rfl g rfl ?_
  refine r_aload_n (kd142 rfl) rfl rfl ?_
  refine r_bipush (kd142 rfl) (y := 6) (by decide) rfl ?_
  obtain ⟨g0, g3, g1, g2, h⟩ := h
  have h := h _ rfl
  refine r_newarray (kd142 rfl) (by decide) g0 g3 g1 g2 rfl ?_
  obtain ⟨g, h⟩ := h
  have h := h _ rfl
  refine r_put2 (kd142 rfl) (by decide) rfl g rfl ?_
  refine r_aload_n (kd142 rfl) rfl rfl ?_
  refine r_bipush (kd142 rfl) (y := 6) (by decide) rfl ?_
  obtain ⟨g0, g3, g1, g2, h⟩ := h
  have h := h _ rfl
  refine r_newarray (kd142 rfl) (by decide) g0 g3 g1 g2 rfl ?_
  obtain ⟨g, h⟩ := h
  have h := h _ rfl
  refine r_put2 (kd142 rfl) (by decide) rfl g rfl ?_
  refine r_aload_n (kd142 rfl) rfl rfl ?_
  refine r_bipush (kd142 rfl) (y := 6) (by decide) rfl ?_
  obtain ⟨g0, g3, g1, g2, h⟩ := h
  have h := h _ rfl
  refine r_newarray (kd142 rfl) (by decide) g0 g3 g1 g2 rfl ?_
  obtain ⟨g, h⟩ := h
  have h := h _ rfl
  refine r_put2 (kd142 rfl) (by decide) rfl g rfl ?_
  refine r_aload_n (kd142 rfl) rfl rfl ?_
  refine r_sipush (kd142 rfl) (y := 2100) (by decide) rfl ?_
  obtain ⟨g0, g3, g1, g2, h⟩ := h
  have h := h _ rfl
  refine r_newarray (kd142 rfl) (by decide) g0 g3 g1 g2 rfl ?_
  obtain ⟨g, h⟩ := h
  have h := h _ rfl
  refine r_put2 (kd142 rfl) (by decide) rfl g rfl ?_
  exact r_return (kd142 rfl) R142 h
/-- TierMillModel.thrown()I -/
theorem kd143 {pc : Nat} {q : eI} (h : e_d143.lookup pc = some q) : e_dec 143 pc = some q := h
theorem L143 : (e_m 143).2.2.1 = 1 := rfl
theorem R143 : (e_m 143).2.2.2.1 = (some .int) := rfl
def w_Mod_thrown (l0 : Nat) (M : eM) (Q : Int32 → eM → Prop) : Prop := e_ob M l0 12 ∧ Q (gi M l0 0) M
theorem b_Mod_thrown {d : Nat} {l0 : Nat} {M : eM} {Q : Int32 → eM → Prop} (hd : 0 ≤ d) (h : w_Mod_thrown l0 M Q) : e_CI 143 d 0 0 [.ref l0] M Q := by
  unfold w_Mod_thrown at h
  show e_E 143 d 0 0 0 [(0, .ref l0)] [] M (e_QI Q)
  refine r_aload_n (kd143 rfl) rfl rfl ?_
  obtain ⟨g, h⟩ := h
  refine r_get0 (kd143 rfl) (by decide) rfl g rfl ?_
  exact r_ireturn (kd143 rfl) R143 h
/-- TierMillModel.raise(I)I -/
theorem kd144 {pc : Nat} {q : eI} (h : e_d144.lookup pc = some q) : e_dec 144 pc = some q := h
theorem L144 : (e_m 144).2.2.1 = 2 := rfl
theorem R144 : (e_m 144).2.2.2.1 = (some .int) := rfl
def w_Mod_raise (l0 : Nat) (l1 : Int32) (M : eM) (Q : Int32 → eM → Prop) : Prop := e_ob M l0 12 ∧ ∀ M1 : eM, M1 = e_si M l0 0 l1 → Q (0 : Int32) M1
theorem b_Mod_raise {d : Nat} {l0 : Nat} {l1 : Int32} {M : eM} {Q : Int32 → eM → Prop} (hd : 0 ≤ d) (h : w_Mod_raise l0 l1 M Q) : e_CI 144 d 0 0 [.ref l0, .int l1] M Q := by
  unfold w_Mod_raise at h
  show e_E 144 d 0 0 0 [(0, .ref l0), (1, .int l1)] [] M (e_QI Q)
  refine r_aload_n (kd144 rfl) rfl rfl ?_
  refine r_iload_n (kd144 rfl) rfl rfl ?_
  obtain ⟨g, h⟩ := h
  have h := h _ rfl
  refine r_put0 (kd144 rfl) (by decide) rfl g rfl ?_
  refine r_iconst (kd144 rfl) (y := 0) (by decide) rfl ?_
  exact r_ireturn (kd144 rfl) R144 h
/-- TierMillModel.within(III)Z -/
theorem kd145 {pc : Nat} {q : eI} (h : e_d145.lookup pc = some q) : e_dec 145 pc = some q := h
theorem L145 : (e_m 145).2.2.1 = 3 := rfl
theorem R145 : (e_m 145).2.2.2.1 = (some .boolean) := rfl
def w_Mod_within_15 (s0 : Int32) (M : eM) (Q : Int32 → eM → Prop) : Prop := (s0 = 0 ∨ s0 = 1) ∧ Q s0 M
theorem b_Mod_within_15 {d : Nat} {s0 : Int32} {M : eM} {Q : Int32 → eM → Prop} (hd : 0 ≤ d) (h : w_Mod_within_15 s0 M Q ) : e_E 145 d 0 0 15 [] [.int s0] M (e_QI Q) := by
  unfold w_Mod_within_15 at h
  exact r_zreturn (kd145 rfl) R145 h.1 h.2
def w_Mod_within_14 (M : eM) (Q : Int32 → eM → Prop) : Prop := w_Mod_within_15 0 M Q
theorem b_Mod_within_14 {d : Nat} {M : eM} {Q : Int32 → eM → Prop} (hd : 0 ≤ d) (h : w_Mod_within_14 M Q ) : e_E 145 d 0 0 14 [] [] M (e_QI Q) := by
  unfold w_Mod_within_14 at h
  refine r_iconst (kd145 rfl) (y := 0) (by decide) rfl ?_
  exact (b_Mod_within_15 hd h).less e_sn
def w_Mod_within (l0 : Int32) (l1 : Int32) (l2 : Int32) (M : eM) (Q : Int32 → eM → Prop) : Prop := (l0 < l1 → w_Mod_within_14 M Q) ∧ (¬ l0 < l1 → (l2 < l0 → w_Mod_within_14 M Q) ∧ (¬ l2 < l0 → w_Mod_within_15 1 M Q))
theorem b_Mod_within {d : Nat} {l0 : Int32} {l1 : Int32} {l2 : Int32} {M : eM} {Q : Int32 → eM → Prop} (hd : 0 ≤ d) (h : w_Mod_within l0 l1 l2 M Q) : e_CI 145 d 0 0 [.int l0, .int l1, .int l2] M Q := by
  unfold w_Mod_within at h
  show e_E 145 d 0 0 0 [(0, .int l0), (1, .int l1), (2, .int l2)] [] M (e_QI Q)
  refine r_iload_n (kd145 rfl) rfl rfl ?_
  refine r_iload_n (kd145 rfl) rfl rfl ?_
  refine r_icmp_lt (kd145 rfl) rfl (fun c => ?_) (fun c => ?_)
  · have h := h.1 c
    exact (b_Mod_within_14 hd h).less e_sn
  · have h := h.2 c
    refine r_iload_n (kd145 rfl) rfl rfl ?_
    refine r_iload_n (kd145 rfl) rfl rfl ?_
    refine r_icmp_gt (kd145 rfl) rfl (fun c => ?_) (fun c => ?_)
    · have h := h.1 c
      exact (b_Mod_within_14 hd h).less e_sn
    · have h := h.2 c
      refine r_iconst (kd145 rfl) (y := 1) (by decide) rfl ?_
      refine r_goto (kd145 rfl) ?_
      exact (b_Mod_within_15 hd h).less e_sn
/-- TierMillModel.put(JI)Z -/
theorem kd146 {pc : Nat} {q : eI} (h : e_d146.lookup pc = some q) : e_dec 146 pc = some q := h
theorem L146 : (e_m 146).2.2.1 = 5 := rfl
theorem R146 : (e_m 146).2.2.2.1 = (some .boolean) := rfl
def w_Mod_put_28 (M : eM) (Q : Int32 → eM → Prop) : Prop := ((0 : Int32) = 0 ∨ (0 : Int32) = 1) ∧ Q (0 : Int32) M
theorem b_Mod_put_28 {d : Nat} {M : eM} {Q : Int32 → eM → Prop} (hd : 0 ≤ d) (h : w_Mod_put_28 M Q ) : e_E 146 d 0 0 28 [] [] M (e_QI Q) := by
  unfold w_Mod_put_28 at h
  refine r_iconst (kd146 rfl) (y := 0) (by decide) rfl ?_
  exact r_zreturn (kd146 rfl) R146 h.1 h.2
def w_Mod_put_35 : Nat → Nat → Int64 → Int32 → eM → (Int32 → eM → Prop) → Prop
  | 0, _, _, _, _, _ => False
  | n + 1, l0, l1, l4, M, Q => (l4 < 0 → ((1 : Int32) = 0 ∨ (1 : Int32) = 1) ∧ Q (1 : Int32) M) ∧ (¬ l4 < 0 → e_ob M l0 12 ∧ e_ob M l0 12 ∧ e_ar M (gr M l0 2) 20 (gi M l0 1) ∧ ∀ M3 : eM, M3 = e_si M (gr M l0 2) (gi M l0 1).toNatClampNeg (((l1 >>> ((8 * l4).toInt64 &&& 63)) &&& 255).toInt32) → e_ob M3 l0 12 ∧ e_ob M3 l0 12 ∧ ∀ M4 : eM, M4 = e_si M3 l0 1 ((gi M3 l0 1) + 1) → (fun l0 l1 l4 M => w_Mod_put_35 n l0 l1 l4 M Q ) l0 l1 (l4 + (-1)) M4)
theorem b_Mod_put_35 {d : Nat} {Q : Int32 → eM → Prop} (hd : 0 ≤ d) (n : Nat) : ∀ (l0 : Nat) (l1 : Int64) (l4 : Int32) (M : eM), w_Mod_put_35 n l0 l1 l4 M Q → e_E 146 d 0 0 35 [(0, .ref l0), (1, .long l1), (4, .int l4)] [] M (e_QI Q) := by
  induction n with
  | zero => intro l0 l1 l4 M h; exact False.elim h
  | succ n ih =>
    intro l0 l1 l4 M h
    have hk35 := ih
    refine r_iload (kd146 rfl) rfl rfl ?_
    refine r_if_lt (kd146 rfl) rfl (fun c => ?_) (fun c => ?_)
    · have h := h.1 c
      refine r_iconst (kd146 rfl) (y := 1) (by decide) rfl ?_
      exact r_zreturn (kd146 rfl) R146 h.1 h.2
    · have h := h.2 c
      refine r_aload_n (kd146 rfl) rfl rfl ?_
      obtain ⟨g, h⟩ := h
      refine r_get2 (kd146 rfl) (by decide) rfl g rfl ?_
      refine r_aload_n (kd146 rfl) rfl rfl ?_
      obtain ⟨g, h⟩ := h
      refine r_get0 (kd146 rfl) (by decide) rfl g rfl ?_
      refine r_lload_n (kd146 rfl) rfl rfl ?_
      refine r_bipush (kd146 rfl) (y := 8) (by decide) rfl ?_
      refine r_iload (kd146 rfl) rfl rfl ?_
      refine r_imul (kd146 rfl) rfl ?_
      refine r_lshr (kd146 rfl) rfl ?_
      refine r_ldc2_w (kd146 rfl) (y := 255) (by decide) rfl ?_
      refine r_land (kd146 rfl) rfl ?_
      refine r_l2i (kd146 rfl) rfl ?_
      obtain ⟨g, h⟩ := h
      have h := h _ rfl
      refine r_iastore (kd146 rfl) g rfl ?_
      refine r_aload_n (kd146 rfl) rfl rfl ?_
      refine r_dup (kd146 rfl) rfl rfl ?_
      obtain ⟨g, h⟩ := h
      refine r_get0 (kd146 rfl) (by decide) rfl g rfl ?_
      refine r_iconst (kd146 rfl) (y := 1) (by decide) rfl ?_
      refine r_iadd (kd146 rfl) rfl ?_
      obtain ⟨g, h⟩ := h
      have h := h _ rfl
      refine r_put0 (kd146 rfl) (by decide) rfl g rfl ?_
      refine r_iinc (kd146 rfl) rfl (y := (-1)) (by decide) L146 (by decide) rfl rfl ?_
      refine r_goto (kd146 rfl) ?_
      exact (hk35 _ _ _ _ h).less (e_sc (List.mem_of_getElem? (i := 1) rfl) (e_sc (List.mem_of_getElem? (i := 2) rfl) (e_sc (List.mem_of_getElem? (i := 0) rfl) e_sn)))
def w_Mod_put (l0 : Nat) (l1 : Int64) (l3 : Int32) (M : eM) (Q : Int32 → eM → Prop) : Prop := e_ob M l0 12 ∧ ∀ M1 : eM, M1 = e_si M l0 0 0 → (l3 < 1 → w_Mod_put_28 M1 Q) ∧ (¬ l3 < 1 → (8 < l3 → w_Mod_put_28 M1 Q) ∧ (¬ 8 < l3 → e_ob M1 l0 12 ∧ (((gi M1 l0 1) + l3) ≤ 1500 → ∃ n2 : Nat, w_Mod_put_35 n2 l0 l1 (l3 - 1) M1 Q) ∧ (¬ ((gi M1 l0 1) + l3) ≤ 1500 → w_Mod_put_28 M1 Q)))
theorem b_Mod_put {d : Nat} {l0 : Nat} {l1 : Int64} {l3 : Int32} {M : eM} {Q : Int32 → eM → Prop} (hd : 0 ≤ d) (h : w_Mod_put l0 l1 l3 M Q) : e_CI 146 d 0 0 [.ref l0, .long l1, .int l3] M Q := by
  unfold w_Mod_put at h
  show e_E 146 d 0 0 0 [(0, .ref l0), (1, .long l1), (3, .int l3)] [] M (e_QI Q)
  refine r_aload_n (kd146 rfl) rfl rfl ?_
  refine r_iconst (kd146 rfl) (y := 0) (by decide) rfl ?_
  obtain ⟨g, h⟩ := h
  have h := h _ rfl
  refine r_put0 (kd146 rfl) (by decide) rfl g rfl ?_
  refine r_iload_n (kd146 rfl) rfl rfl ?_
  refine r_iconst (kd146 rfl) (y := 1) (by decide) rfl ?_
  refine r_icmp_lt (kd146 rfl) rfl (fun c => ?_) (fun c => ?_)
  · have h := h.1 c
    exact (b_Mod_put_28 hd h).less e_sn
  · have h := h.2 c
    refine r_iload_n (kd146 rfl) rfl rfl ?_
    refine r_bipush (kd146 rfl) (y := 8) (by decide) rfl ?_
    refine r_icmp_gt (kd146 rfl) rfl (fun c => ?_) (fun c => ?_)
    · have h := h.1 c
      exact (b_Mod_put_28 hd h).less e_sn
    · have h := h.2 c
      refine r_aload_n (kd146 rfl) rfl rfl ?_
      obtain ⟨g, h⟩ := h
      refine r_get0 (kd146 rfl) (by decide) rfl g rfl ?_
      refine r_iload_n (kd146 rfl) rfl rfl ?_
      refine r_iadd (kd146 rfl) rfl ?_
      refine r_sipush (kd146 rfl) (y := 1500) (by decide) rfl ?_
      refine r_icmp_le (kd146 rfl) rfl (fun c => ?_) (fun c => ?_)
      · have h := h.1 c
        refine r_iload_n (kd146 rfl) rfl rfl ?_
        refine r_iconst (kd146 rfl) (y := 1) (by decide) rfl ?_
        refine r_isub (kd146 rfl) rfl ?_
        refine r_istore (kd146 rfl) L146 (by decide) rfl rfl ?_
        obtain ⟨n, h⟩ := h
        exact (b_Mod_put_35 hd n _ _ _ _ h).less (e_sc (List.mem_of_getElem? (i := 1) rfl) (e_sc (List.mem_of_getElem? (i := 2) rfl) (e_sc (List.mem_of_getElem? (i := 0) rfl) e_sn)))
      · have h := h.2 c
        exact (b_Mod_put_28 hd h).less e_sn
/-- TierMillModel.next(II)I -/
theorem kd147 {pc : Nat} {q : eI} (h : e_d147.lookup pc = some q) : e_dec 147 pc = some q := h
theorem L147 : (e_m 147).2.2.1 = 3 := rfl
theorem R147 : (e_m 147).2.2.2.1 = (some .int) := rfl
def w_Mod_next_37 (l0 : Nat) (M : eM) (Q : Int32 → eM → Prop) : Prop := e_ob M l0 12 ∧ ((1 : Int32) = 0 ∨ (1 : Int32) = 1) ∧ ∀ M4 : eM, M4 = e_si M l0 82 (1 : Int32) → Q (0 : Int32) M4
theorem b_Mod_next_37 {d : Nat} {l0 : Nat} {M : eM} {Q : Int32 → eM → Prop} (hd : 1 ≤ d) (h : w_Mod_next_37 l0 M Q ) : e_E 147 d 0 0 37 [(0, .ref l0)] [] M (e_QI Q) := by
  unfold w_Mod_next_37 at h
  refine r_aload_n (kd147 rfl) rfl rfl ?_
  refine r_iconst (kd147 rfl) (y := 1) (by decide) rfl ?_
  obtain ⟨g, h⟩ := h
  obtain ⟨gb, h⟩ := h
  have h := h _ rfl
  refine r_put3 (kd147 rfl) (by decide) rfl g gb rfl ?_
  refine r_iconst (kd147 rfl) (y := 0) (by decide) rfl ?_
  exact r_ireturn (kd147 rfl) R147 h
def w_Mod_next (l0 : Nat) (l1 : Int32) (l2 : Int32) (M : eM) (Q : Int32 → eM → Prop) : Prop := e_ob M l0 12 ∧ ((gi M l0 82) = 0 → e_ob M l0 12 ∧ e_ob M l0 12 ∧ ((gi M l0 4) ≤ (gi M l0 81) → w_Mod_next_37 l0 M Q) ∧ (¬ (gi M l0 4) ≤ (gi M l0 81) → e_ob M l0 12 ∧ e_ob M l0 12 ∧ e_ai M (gr M l0 3) (gi M l0 81) ∧ w_Mod_within (gi M (gr M l0 3) (gi M l0 81).toNatClampNeg) l1 l2 M (fun (v2 : Int32) (M1 : eM) => (¬ v2 = 0 → e_ob M1 l0 12 ∧ e_ob M1 l0 12 ∧ ∀ M3 : eM, M3 = e_si M1 l0 81 ((gi M1 l0 81) + 1) → e_ob M3 l0 12 ∧ e_ob M3 l0 12 ∧ e_ai M3 (gr M3 l0 3) ((gi M3 l0 81) - 1) ∧ Q (gi M3 (gr M3 l0 3) ((gi M3 l0 81) - 1).toNatClampNeg) M3) ∧ (v2 = 0 → w_Mod_next_37 l0 M1 Q)))) ∧ (¬ (gi M l0 82) = 0 → Q (0 : Int32) M)
theorem b_Mod_next {d : Nat} {l0 : Nat} {l1 : Int32} {l2 : Int32} {M : eM} {Q : Int32 → eM → Prop} (hd : 1 ≤ d) (h : w_Mod_next l0 l1 l2 M Q) : e_CI 147 d 0 0 [.ref l0, .int l1, .int l2] M Q := by
  unfold w_Mod_next at h
  show e_E 147 d 0 0 0 [(0, .ref l0), (1, .int l1), (2, .int l2)] [] M (e_QI Q)
  refine r_aload_n (kd147 rfl) rfl rfl ?_
  obtain ⟨g, h⟩ := h
  refine r_get3 (kd147 rfl) (by decide) rfl g rfl ?_
  refine r_if_eq (kd147 rfl) rfl (fun c => ?_) (fun c => ?_)
  · have h := h.1 c
    refine r_aload_n (kd147 rfl) rfl rfl ?_
    obtain ⟨g, h⟩ := h
    refine r_get0 (kd147 rfl) (by decide) rfl g rfl ?_
    refine r_aload_n (kd147 rfl) rfl rfl ?_
    obtain ⟨g, h⟩ := h
    refine r_get0 (kd147 rfl) (by decide) rfl g rfl ?_
    refine r_icmp_ge (kd147 rfl) rfl (fun c => ?_) (fun c => ?_)
    · have h := h.1 c
      exact (b_Mod_next_37 hd h).less (e_sc (List.mem_of_getElem? (i := 0) rfl) e_sn)
    · have h := h.2 c
      refine r_aload_n (kd147 rfl) rfl rfl ?_
      obtain ⟨g, h⟩ := h
      refine r_get2 (kd147 rfl) (by decide) rfl g rfl ?_
      refine r_aload_n (kd147 rfl) rfl rfl ?_
      obtain ⟨g, h⟩ := h
      refine r_get0 (kd147 rfl) (by decide) rfl g rfl ?_
      obtain ⟨g, h⟩ := h
      refine r_iaload (kd147 rfl) g rfl ?_
      refine r_iload_n (kd147 rfl) rfl rfl ?_
      refine r_iload_n (kd147 rfl) rfl rfl ?_
      refine r_callSI (d' := d - 1) (by omega) (kd147 rfl) (by decide) rfl rfl rfl rfl (Nat.le_of_ble_eq_true rfl) rfl L145 (Nat.le_of_ble_eq_true rfl) (Nat.le_of_ble_eq_true rfl) (Nat.zero_le _) (Nat.zero_le _) rfl rfl rfl (b_Mod_within (by omega) h) (fun x1 M1 h => ?_)
      refine r_if_ne (kd147 rfl) rfl (fun c => ?_) (fun c => ?_)
      · have h := h.1 c
        refine r_aload_n (kd147 rfl) rfl rfl ?_
        refine r_dup (kd147 rfl) rfl rfl ?_
        obtain ⟨g, h⟩ := h
        refine r_get0 (kd147 rfl) (by decide) rfl g rfl ?_
        refine r_iconst (kd147 rfl) (y := 1) (by decide) rfl ?_
        refine r_iadd (kd147 rfl) rfl ?_
        obtain ⟨g, h⟩ := h
        have h := h _ rfl
        refine r_put0 (kd147 rfl) (by decide) rfl g rfl ?_
        refine r_aload_n (kd147 rfl) rfl rfl ?_
        obtain ⟨g, h⟩ := h
        refine r_get2 (kd147 rfl) (by decide) rfl g rfl ?_
        refine r_aload_n (kd147 rfl) rfl rfl ?_
        obtain ⟨g, h⟩ := h
        refine r_get0 (kd147 rfl) (by decide) rfl g rfl ?_
        refine r_iconst (kd147 rfl) (y := 1) (by decide) rfl ?_
        refine r_isub (kd147 rfl) rfl ?_
        obtain ⟨g, h⟩ := h
        refine r_iaload (kd147 rfl) g rfl ?_
        exact r_ireturn (kd147 rfl) R147 h
      · have h := h.2 c
        exact (b_Mod_next_37 hd h).less (e_sc (List.mem_of_getElem? (i := 0) rfl) e_sn)
  · have h := h.2 c
    refine r_iconst (kd147 rfl) (y := 0) (by decide) rfl ?_
    exact r_ireturn (kd147 rfl) R147 h
/-- TierMillModel.type(Z)I -/
theorem kd148 {pc : Nat} {q : eI} (h : e_d148.lookup pc = some q) : e_dec 148 pc = some q := h
theorem L148 : (e_m 148).2.2.1 = 4 := rfl
theorem R148 : (e_m 148).2.2.2.1 = (some .int) := rfl
def w_Mod_type_74 (l0 : Nat) (l2 : Int32) (s0 : Int32) (M : eM) (Q : Int32 → eM → Prop) : Prop := (¬ s0 = 0 → e_ob M l0 12 ∧ e_ob M l0 12 ∧ ∀ M1 : eM, M1 = e_si M l0 81 ((gi M l0 81) + 1) → Q l2 M1) ∧ (s0 = 0 → e_ob M l0 12 ∧ ((1 : Int32) = 0 ∨ (1 : Int32) = 1) ∧ ∀ M2 : eM, M2 = e_si M l0 82 (1 : Int32) → Q (0 : Int32) M2)
theorem b_Mod_type_74 {d : Nat} {l0 : Nat} {l2 : Int32} {s0 : Int32} {M : eM} {Q : Int32 → eM → Prop} (hd : 0 ≤ d) (h : w_Mod_type_74 l0 l2 s0 M Q ) : e_E 148 d 0 0 74 [(0, .ref l0), (2, .int l2)] [.int s0] M (e_QI Q) := by
  unfold w_Mod_type_74 at h
  refine r_istore_n (kd148 rfl) L148 (by decide) rfl rfl ?_
  refine r_iload_n (kd148 rfl) rfl rfl ?_
  refine r_if_ne (kd148 rfl) rfl (fun c => ?_) (fun c => ?_)
  · have h := h.1 c
    refine r_aload_n (kd148 rfl) rfl rfl ?_
    refine r_dup (kd148 rfl) rfl rfl ?_
    obtain ⟨g, h⟩ := h
    refine r_get0 (kd148 rfl) (by decide) rfl g rfl ?_
    refine r_iconst (kd148 rfl) (y := 1) (by decide) rfl ?_
    refine r_iadd (kd148 rfl) rfl ?_
    obtain ⟨g, h⟩ := h
    have h := h _ rfl
    refine r_put0 (kd148 rfl) (by decide) rfl g rfl ?_
    refine r_iload_n (kd148 rfl) rfl rfl ?_
    exact r_ireturn (kd148 rfl) R148 h
  · have h := h.2 c
    refine r_aload_n (kd148 rfl) rfl rfl ?_
    refine r_iconst (kd148 rfl) (y := 1) (by decide) rfl ?_
    obtain ⟨g, h⟩ := h
    obtain ⟨gb, h⟩ := h
    have h := h _ rfl
    refine r_put3 (kd148 rfl) (by decide) rfl g gb rfl ?_
    refine r_iconst (kd148 rfl) (y := 0) (by decide) rfl ?_
    exact r_ireturn (kd148 rfl) R148 h
def w_Mod_type_69 (l0 : Nat) (l2 : Int32) (M : eM) (Q : Int32 → eM → Prop) : Prop := w_Mod_type_74 l0 l2 1 M Q
theorem b_Mod_type_69 {d : Nat} {l0 : Nat} {l2 : Int32} {M : eM} {Q : Int32 → eM → Prop} (hd : 0 ≤ d) (h : w_Mod_type_69 l0 l2 M Q ) : e_E 148 d 0 0 69 [(0, .ref l0), (2, .int l2)] [] M (e_QI Q) := by
  unfold w_Mod_type_69 at h
  refine r_iconst (kd148 rfl) (y := 1) (by decide) rfl ?_
  refine r_goto (kd148 rfl) ?_
  exact (b_Mod_type_74 hd h).less (e_sc (List.mem_of_getElem? (i := 0) rfl) (e_sc (List.mem_of_getElem? (i := 1) rfl) e_sn))
def w_Mod_type_73 (l0 : Nat) (l2 : Int32) (M : eM) (Q : Int32 → eM → Prop) : Prop := w_Mod_type_74 l0 l2 0 M Q
theorem b_Mod_type_73 {d : Nat} {l0 : Nat} {l2 : Int32} {M : eM} {Q : Int32 → eM → Prop} (hd : 0 ≤ d) (h : w_Mod_type_73 l0 l2 M Q ) : e_E 148 d 0 0 73 [(0, .ref l0), (2, .int l2)] [] M (e_QI Q) := by
  unfold w_Mod_type_73 at h
  refine r_iconst (kd148 rfl) (y := 0) (by decide) rfl ?_
  exact (b_Mod_type_74 hd h).less (e_sc (List.mem_of_getElem? (i := 0) rfl) (e_sc (List.mem_of_getElem? (i := 1) rfl) e_sn))
def w_Mod_type_61 (l0 : Nat) (l1 : Int32) (l2 : Int32) (M : eM) (Q : Int32 → eM → Prop) : Prop := (l1 = 0 → w_Mod_type_73 l0 l2 M Q) ∧ (¬ l1 = 0 → (¬ l2 = 0 → w_Mod_type_73 l0 l2 M Q) ∧ (l2 = 0 → w_Mod_type_69 l0 l2 M Q))
theorem b_Mod_type_61 {d : Nat} {l0 : Nat} {l1 : Int32} {l2 : Int32} {M : eM} {Q : Int32 → eM → Prop} (hd : 0 ≤ d) (h : w_Mod_type_61 l0 l1 l2 M Q ) : e_E 148 d 0 0 61 [(0, .ref l0), (1, .int l1), (2, .int l2)] [] M (e_QI Q) := by
  unfold w_Mod_type_61 at h
  refine r_iload_n (kd148 rfl) rfl rfl ?_
  refine r_if_eq (kd148 rfl) rfl (fun c => ?_) (fun c => ?_)
  · have h := h.1 c
    exact (b_Mod_type_73 hd h).less (e_sc (List.mem_of_getElem? (i := 0) rfl) (e_sc (List.mem_of_getElem? (i := 2) rfl) e_sn))
  · have h := h.2 c
    refine r_iload_n (kd148 rfl) rfl rfl ?_
    refine r_if_ne (kd148 rfl) rfl (fun c => ?_) (fun c => ?_)
    · have h := h.1 c
      exact (b_Mod_type_73 hd h).less (e_sc (List.mem_of_getElem? (i := 0) rfl) (e_sc (List.mem_of_getElem? (i := 2) rfl) e_sn))
    · have h := h.2 c
      exact (b_Mod_type_69 hd h).less (e_sc (List.mem_of_getElem? (i := 0) rfl) (e_sc (List.mem_of_getElem? (i := 2) rfl) e_sn))
def w_Mod_type_33 (l0 : Nat) (l1 : Int32) (s0 : Int32) (M : eM) (Q : Int32 → eM → Prop) : Prop := (s0 = 1 → w_Mod_type_69 l0 s0 M Q) ∧ (¬ s0 = 1 → (s0 = 2 → w_Mod_type_69 l0 s0 M Q) ∧ (¬ s0 = 2 → (s0 < 16 → w_Mod_type_61 l0 l1 s0 M Q) ∧ (¬ s0 < 16 → e_ob M l0 12 ∧ (s0 < (16 + (gi M l0 11)) → w_Mod_type_69 l0 s0 M Q) ∧ (¬ s0 < (16 + (gi M l0 11)) → w_Mod_type_61 l0 l1 s0 M Q))))
theorem b_Mod_type_33 {d : Nat} {l0 : Nat} {l1 : Int32} {s0 : Int32} {M : eM} {Q : Int32 → eM → Prop} (hd : 0 ≤ d) (h : w_Mod_type_33 l0 l1 s0 M Q ) : e_E 148 d 0 0 33 [(0, .ref l0), (1, .int l1)] [.int s0] M (e_QI Q) := by
  unfold w_Mod_type_33 at h
  refine r_istore_n (kd148 rfl) L148 (by decide) rfl rfl ?_
  refine r_iload_n (kd148 rfl) rfl rfl ?_
  refine r_iconst (kd148 rfl) (y := 1) (by decide) rfl ?_
  refine r_icmp_eq (kd148 rfl) rfl (fun c => ?_) (fun c => ?_)
  · have h := h.1 c
    exact (b_Mod_type_69 hd h).less (e_sc (List.mem_of_getElem? (i := 1) rfl) (e_sc (List.mem_of_getElem? (i := 0) rfl) e_sn))
  · have h := h.2 c
    refine r_iload_n (kd148 rfl) rfl rfl ?_
    refine r_iconst (kd148 rfl) (y := 2) (by decide) rfl ?_
    refine r_icmp_eq (kd148 rfl) rfl (fun c => ?_) (fun c => ?_)
    · have h := h.1 c
      exact (b_Mod_type_69 hd h).less (e_sc (List.mem_of_getElem? (i := 1) rfl) (e_sc (List.mem_of_getElem? (i := 0) rfl) e_sn))
    · have h := h.2 c
      refine r_iload_n (kd148 rfl) rfl rfl ?_
      refine r_bipush (kd148 rfl) (y := 16) (by decide) rfl ?_
      refine r_icmp_lt (kd148 rfl) rfl (fun c => ?_) (fun c => ?_)
      · have h := h.1 c
        exact (b_Mod_type_61 hd h).less (e_sc (List.mem_of_getElem? (i := 1) rfl) (e_sc (List.mem_of_getElem? (i := 2) rfl) (e_sc (List.mem_of_getElem? (i := 0) rfl) e_sn)))
      · have h := h.2 c
        refine r_iload_n (kd148 rfl) rfl rfl ?_
        refine r_bipush (kd148 rfl) (y := 16) (by decide) rfl ?_
        refine r_aload_n (kd148 rfl) rfl rfl ?_
        obtain ⟨g, h⟩ := h
        refine r_get0 (kd148 rfl) (by decide) rfl g rfl ?_
        refine r_iadd (kd148 rfl) rfl ?_
        refine r_icmp_lt (kd148 rfl) rfl (fun c => ?_) (fun c => ?_)
        · have h := h.1 c
          exact (b_Mod_type_69 hd h).less (e_sc (List.mem_of_getElem? (i := 1) rfl) (e_sc (List.mem_of_getElem? (i := 0) rfl) e_sn))
        · have h := h.2 c
          exact (b_Mod_type_61 hd h).less (e_sc (List.mem_of_getElem? (i := 1) rfl) (e_sc (List.mem_of_getElem? (i := 2) rfl) (e_sc (List.mem_of_getElem? (i := 0) rfl) e_sn)))
def w_Mod_type (l0 : Nat) (l1 : Int32) (M : eM) (Q : Int32 → eM → Prop) : Prop := e_ob M l0 12 ∧ ((gi M l0 82) = 0 → e_ob M l0 12 ∧ e_ob M l0 12 ∧ ((gi M l0 4) ≤ (gi M l0 81) → w_Mod_type_33 l0 l1 (-1) M Q) ∧ (¬ (gi M l0 4) ≤ (gi M l0 81) → e_ob M l0 12 ∧ e_ob M l0 12 ∧ e_ai M (gr M l0 3) (gi M l0 81) ∧ w_Mod_type_33 l0 l1 (gi M (gr M l0 3) (gi M l0 81).toNatClampNeg) M Q)) ∧ (¬ (gi M l0 82) = 0 → Q (0 : Int32) M)
theorem b_Mod_type {d : Nat} {l0 : Nat} {l1 : Int32} {M : eM} {Q : Int32 → eM → Prop} (hd : 0 ≤ d) (h : w_Mod_type l0 l1 M Q) : e_CI 148 d 0 0 [.ref l0, .int l1] M Q := by
  unfold w_Mod_type at h
  show e_E 148 d 0 0 0 [(0, .ref l0), (1, .int l1)] [] M (e_QI Q)
  refine r_aload_n (kd148 rfl) rfl rfl ?_
  obtain ⟨g, h⟩ := h
  refine r_get3 (kd148 rfl) (by decide) rfl g rfl ?_
  refine r_if_eq (kd148 rfl) rfl (fun c => ?_) (fun c => ?_)
  · have h := h.1 c
    refine r_aload_n (kd148 rfl) rfl rfl ?_
    obtain ⟨g, h⟩ := h
    refine r_get0 (kd148 rfl) (by decide) rfl g rfl ?_
    refine r_aload_n (kd148 rfl) rfl rfl ?_
    obtain ⟨g, h⟩ := h
    refine r_get0 (kd148 rfl) (by decide) rfl g rfl ?_
    refine r_icmp_ge (kd148 rfl) rfl (fun c => ?_) (fun c => ?_)
    · have h := h.1 c
      refine r_iconst (kd148 rfl) (y := (-1)) (by decide) rfl ?_
      exact (b_Mod_type_33 hd h).less (e_sc (List.mem_of_getElem? (i := 0) rfl) (e_sc (List.mem_of_getElem? (i := 1) rfl) e_sn))
    · have h := h.2 c
      refine r_aload_n (kd148 rfl) rfl rfl ?_
      obtain ⟨g, h⟩ := h
      refine r_get2 (kd148 rfl) (by decide) rfl g rfl ?_
      refine r_aload_n (kd148 rfl) rfl rfl ?_
      obtain ⟨g, h⟩ := h
      refine r_get0 (kd148 rfl) (by decide) rfl g rfl ?_
      obtain ⟨g, h⟩ := h
      refine r_iaload (kd148 rfl) g rfl ?_
      refine r_goto (kd148 rfl) ?_
      exact (b_Mod_type_33 hd h).less (e_sc (List.mem_of_getElem? (i := 0) rfl) (e_sc (List.mem_of_getElem? (i := 1) rfl) e_sn))
  · have h := h.2 c
    refine r_iconst (kd148 rfl) (y := 0) (by decide) rfl ?_
    exact r_ireturn (kd148 rfl) R148 h
/-- TierMillModel.readClass(I)V -/
theorem kd149 {pc : Nat} {q : eI} (h : e_d149.lookup pc = some q) : e_dec 149 pc = some q := h
theorem L149 : (e_m 149).2.2.1 = 7 := rfl
theorem R149 : (e_m 149).2.2.2.1 = none := rfl
def w_Mod_readClass_112 : Nat → Nat → Int32 → Int32 → Int32 → Int32 → eM → (eM → Prop) → Prop
  | 0, _, _, _, _, _, _, _ => False
  | n + 1, l0, l1, l3, l5, l6, M, Q => ((l3 + l5) ≤ l6 → Q M) ∧ (¬ (l3 + l5) ≤ l6 → e_ob M l0 12 ∧ e_ob M l0 12 ∧ w_Mod_type l0 0 M (fun (v11 : Int32) (M10 : eM) => e_ar M10 (gr M l0 14) 20 ((8 * l1) + l6) ∧ ∀ M12 : eM, M12 = e_si M10 (gr M l0 14) ((8 * l1) + l6).toNatClampNeg v11 → (fun l0 l1 l3 l5 l6 M => w_Mod_readClass_112 n l0 l1 l3 l5 l6 M Q ) l0 l1 l3 l5 (l6 + 1) M12))
theorem b_Mod_readClass_112 {d : Nat} {Q : eM → Prop} (hd : 2 ≤ d) (n : Nat) : ∀ (l0 : Nat) (l1 : Int32) (l3 : Int32) (l5 : Int32) (l6 : Int32) (M : eM), w_Mod_readClass_112 n l0 l1 l3 l5 l6 M Q → e_E 149 d 0 0 112 [(0, .ref l0), (1, .int l1), (3, .int l3), (5, .int l5), (6, .int l6)] [] M (e_QV Q) := by
  induction n with
  | zero => intro l0 l1 l3 l5 l6 M h; exact False.elim h
  | succ n ih =>
    intro l0 l1 l3 l5 l6 M h
    have hk112 := ih
    refine r_iload (kd149 rfl) rfl rfl ?_
    refine r_iload_n (kd149 rfl) rfl rfl ?_
    refine r_iload (kd149 rfl) rfl rfl ?_
    refine r_iadd (kd149 rfl) rfl ?_
    refine r_icmp_ge (kd149 rfl) rfl (fun c => ?_) (fun c => ?_)
    · have h := h.1 c
      exact r_return (kd149 rfl) R149 h
    · have h := h.2 c
      refine r_aload_n (kd149 rfl) rfl rfl ?_
      obtain ⟨g, h⟩ := h
      refine r_get2 (kd149 rfl) (by decide) rfl g rfl ?_
      refine r_bipush (kd149 rfl) (y := 8) (by decide) rfl ?_
      refine r_iload_n (kd149 rfl) rfl rfl ?_
      refine r_imul (kd149 rfl) rfl ?_
      refine r_iload (kd149 rfl) rfl rfl ?_
      refine r_iadd (kd149 rfl) rfl ?_
      refine r_aload_n (kd149 rfl) rfl rfl ?_
      refine r_iconst (kd149 rfl) (y := 0) (by decide) rfl ?_
      obtain ⟨g, h⟩ := h
      refine r_callVI (d' := d - 1) (by omega) (kd149 rfl) (by decide) rfl rfl rfl rfl (Nat.le_of_ble_eq_true rfl) rfl L148 (Nat.le_of_ble_eq_true rfl) (Nat.le_of_ble_eq_true rfl) g (Nat.zero_le _) (Nat.zero_le _) rfl rfl rfl (b_Mod_type (by omega) h) (fun x1 M1 h => ?_)
      obtain ⟨g, h⟩ := h
      have h := h _ rfl
      refine r_iastore (kd149 rfl) g rfl ?_
      refine r_iinc (kd149 rfl) rfl (y := 1) (by decide) L149 (by decide) rfl rfl ?_
      refine r_goto (kd149 rfl) ?_
      exact (hk112 _ _ _ _ _ _ h).less (e_sc (List.mem_of_getElem? (i := 1) rfl) (e_sc (List.mem_of_getElem? (i := 2) rfl) (e_sc (List.mem_of_getElem? (i := 3) rfl) (e_sc (List.mem_of_getElem? (i := 4) rfl) (e_sc (List.mem_of_getElem? (i := 0) rfl) e_sn)))))
def w_Mod_readClass_71 : Nat → Nat → Int32 → Int32 → Int32 → Int32 → Int32 → eM → (eM → Prop) → Prop
  | 0, _, _, _, _, _, _, _, _ => False
  | n + 1, l0, l1, l2, l3, l5, l6, M, Q => (l3 ≤ l6 → ∃ n8 : Nat, w_Mod_readClass_112 n8 l0 l1 l3 l5 l3 M Q) ∧ (¬ l3 ≤ l6 → e_ob M l0 12 ∧ e_ob M l0 12 ∧ e_ai M (gr M l0 14) ((8 * (l2 - 1)) + l6) ∧ e_ar M (gr M l0 14) 20 ((8 * l1) + l6) ∧ ∀ M9 : eM, M9 = e_si M (gr M l0 14) ((8 * l1) + l6).toNatClampNeg (gi M (gr M l0 14) ((8 * (l2 - 1)) + l6).toNatClampNeg) → (fun l0 l1 l2 l3 l5 l6 M => w_Mod_readClass_71 n l0 l1 l2 l3 l5 l6 M Q ) l0 l1 l2 l3 l5 (l6 + 1) M9)
theorem b_Mod_readClass_71 {d : Nat} {Q : eM → Prop} (hd : 2 ≤ d) (n : Nat) : ∀ (l0 : Nat) (l1 : Int32) (l2 : Int32) (l3 : Int32) (l5 : Int32) (l6 : Int32) (M : eM), w_Mod_readClass_71 n l0 l1 l2 l3 l5 l6 M Q → e_E 149 d 0 0 71 [(0, .ref l0), (1, .int l1), (2, .int l2), (3, .int l3), (5, .int l5), (6, .int l6)] [] M (e_QV Q) := by
  induction n with
  | zero => intro l0 l1 l2 l3 l5 l6 M h; exact False.elim h
  | succ n ih =>
    intro l0 l1 l2 l3 l5 l6 M h
    have hk71 := ih
    refine r_iload (kd149 rfl) rfl rfl ?_
    refine r_iload_n (kd149 rfl) rfl rfl ?_
    refine r_icmp_ge (kd149 rfl) rfl (fun c => ?_) (fun c => ?_)
    · have h := h.1 c
      refine r_iload_n (kd149 rfl) rfl rfl ?_
      refine r_istore (kd149 rfl) L149 (by decide) rfl rfl ?_
      obtain ⟨n, h⟩ := h
      exact (b_Mod_readClass_112 hd n _ _ _ _ _ _ h).less (e_sc (List.mem_of_getElem? (i := 1) rfl) (e_sc (List.mem_of_getElem? (i := 2) rfl) (e_sc (List.mem_of_getElem? (i := 4) rfl) (e_sc (List.mem_of_getElem? (i := 5) rfl) (e_sc (List.mem_of_getElem? (i := 0) rfl) e_sn)))))
    · have h := h.2 c
      refine r_aload_n (kd149 rfl) rfl rfl ?_
      obtain ⟨g, h⟩ := h
      refine r_get2 (kd149 rfl) (by decide) rfl g rfl ?_
      refine r_bipush (kd149 rfl) (y := 8) (by decide) rfl ?_
      refine r_iload_n (kd149 rfl) rfl rfl ?_
      refine r_imul (kd149 rfl) rfl ?_
      refine r_iload (kd149 rfl) rfl rfl ?_
      refine r_iadd (kd149 rfl) rfl ?_
      refine r_aload_n (kd149 rfl) rfl rfl ?_
      obtain ⟨g, h⟩ := h
      refine r_get2 (kd149 rfl) (by decide) rfl g rfl ?_
      refine r_bipush (kd149 rfl) (y := 8) (by decide) rfl ?_
      refine r_iload_n (kd149 rfl) rfl rfl ?_
      refine r_iconst (kd149 rfl) (y := 1) (by decide) rfl ?_
      refine r_isub (kd149 rfl) rfl ?_
      refine r_imul (kd149 rfl) rfl ?_
      refine r_iload (kd149 rfl) rfl rfl ?_
      refine r_iadd (kd149 rfl) rfl ?_
      obtain ⟨g, h⟩ := h
      refine r_iaload (kd149 rfl) g rfl ?_
      obtain ⟨g, h⟩ := h
      have h := h _ rfl
      refine r_iastore (kd149 rfl) g rfl ?_
      refine r_iinc (kd149 rfl) rfl (y := 1) (by decide) L149 (by decide) rfl rfl ?_
      refine r_goto (kd149 rfl) ?_
      exact (hk71 _ _ _ _ _ _ _ h).less (e_sc (List.mem_of_getElem? (i := 1) rfl) (e_sc (List.mem_of_getElem? (i := 2) rfl) (e_sc (List.mem_of_getElem? (i := 3) rfl) (e_sc (List.mem_of_getElem? (i := 4) rfl) (e_sc (List.mem_of_getElem? (i := 5) rfl) (e_sc (List.mem_of_getElem? (i := 0) rfl) e_sn))))))
def w_Mod_readClass_53 (l0 : Nat) (l1 : Int32) (l2 : Int32) (l3 : Int32) (s0 : Int32) (s1 : Int32) (s2 : Nat) (M : eM) (Q : eM → Prop) : Prop := e_ob M s2 12 ∧ w_Mod_next s2 s1 s0 M (fun (v5 : Int32) (M4 : eM) => e_ob M4 l0 12 ∧ e_ar M4 (gr M4 l0 13) 20 l1 ∧ ∀ M6 : eM, M6 = e_si M4 (gr M4 l0 13) l1.toNatClampNeg (l3 + v5) → ∃ n7 : Nat, w_Mod_readClass_71 n7 l0 l1 l2 l3 v5 0 M6 Q)
theorem b_Mod_readClass_53 {d : Nat} {l0 : Nat} {l1 : Int32} {l2 : Int32} {l3 : Int32} {s0 : Int32} {s1 : Int32} {s2 : Nat} {M : eM} {Q : eM → Prop} (hd : 2 ≤ d) (h : w_Mod_readClass_53 l0 l1 l2 l3 s0 s1 s2 M Q ) : e_E 149 d 0 0 53 [(0, .ref l0), (1, .int l1), (2, .int l2), (3, .int l3)] [.int s0, .int s1, .ref s2] M (e_QV Q) := by
  unfold w_Mod_readClass_53 at h
  obtain ⟨g, h⟩ := h
  refine r_callVI (d' := d - 1) (by omega) (kd149 rfl) (by decide) rfl rfl rfl rfl (Nat.le_of_ble_eq_true rfl) rfl L147 (Nat.le_of_ble_eq_true rfl) (Nat.le_of_ble_eq_true rfl) g (Nat.zero_le _) (Nat.zero_le _) rfl rfl rfl (b_Mod_next (by omega) h) (fun x1 M1 h => ?_)
  refine r_istore (kd149 rfl) L149 (by decide) rfl rfl ?_
  refine r_aload_n (kd149 rfl) rfl rfl ?_
  obtain ⟨g, h⟩ := h
  refine r_get2 (kd149 rfl) (by decide) rfl g rfl ?_
  refine r_iload_n (kd149 rfl) rfl rfl ?_
  refine r_iload_n (kd149 rfl) rfl rfl ?_
  refine r_iload (kd149 rfl) rfl rfl ?_
  refine r_iadd (kd149 rfl) rfl ?_
  obtain ⟨g, h⟩ := h
  have h := h _ rfl
  refine r_iastore (kd149 rfl) g rfl ?_
  refine r_iconst (kd149 rfl) (y := 0) (by decide) rfl ?_
  refine r_istore (kd149 rfl) L149 (by decide) rfl rfl ?_
  obtain ⟨n, h⟩ := h
  exact (b_Mod_readClass_71 hd n _ _ _ _ _ _ _ h).less (e_sc (List.mem_of_getElem? (i := 2) rfl) (e_sc (List.mem_of_getElem? (i := 3) rfl) (e_sc (List.mem_of_getElem? (i := 4) rfl) (e_sc (List.mem_of_getElem? (i := 5) rfl) (e_sc (List.mem_of_getElem? (i := 1) rfl) (e_sc (List.mem_of_getElem? (i := 0) rfl) e_sn))))))
def w_Mod_readClass_32 (l0 : Nat) (l1 : Int32) (l2 : Int32) (s0 : Int32) (M : eM) (Q : eM → Prop) : Prop := (4 ≤ (8 - s0) → w_Mod_readClass_53 l0 l1 l2 s0 4 0 l0 M Q) ∧ (¬ 4 ≤ (8 - s0) → w_Mod_readClass_53 l0 l1 l2 s0 (8 - s0) 0 l0 M Q)
theorem b_Mod_readClass_32 {d : Nat} {l0 : Nat} {l1 : Int32} {l2 : Int32} {s0 : Int32} {M : eM} {Q : eM → Prop} (hd : 2 ≤ d) (h : w_Mod_readClass_32 l0 l1 l2 s0 M Q ) : e_E 149 d 0 0 32 [(0, .ref l0), (1, .int l1), (2, .int l2)] [.int s0] M (e_QV Q) := by
  unfold w_Mod_readClass_32 at h
  refine r_istore_n (kd149 rfl) L149 (by decide) rfl rfl ?_
  refine r_bipush (kd149 rfl) (y := 8) (by decide) rfl ?_
  refine r_iload_n (kd149 rfl) rfl rfl ?_
  refine r_isub (kd149 rfl) rfl ?_
  refine r_istore (kd149 rfl) L149 (by decide) rfl rfl ?_
  refine r_aload_n (kd149 rfl) rfl rfl ?_
  refine r_iconst (kd149 rfl) (y := 0) (by decide) rfl ?_
  refine r_iload (kd149 rfl) rfl rfl ?_
  refine r_iconst (kd149 rfl) (y := 4) (by decide) rfl ?_
  refine r_icmp_ge (kd149 rfl) rfl (fun c => ?_) (fun c => ?_)
  · have h := h.1 c
    refine r_iconst (kd149 rfl) (y := 4) (by decide) rfl ?_
    exact (b_Mod_readClass_53 hd h).less (e_sc (List.mem_of_getElem? (i := 2) rfl) (e_sc (List.mem_of_getElem? (i := 3) rfl) (e_sc (List.mem_of_getElem? (i := 4) rfl) (e_sc (List.mem_of_getElem? (i := 1) rfl) e_sn))))
  · have h := h.2 c
    refine r_iload (kd149 rfl) rfl rfl ?_
    refine r_goto (kd149 rfl) ?_
    exact (b_Mod_readClass_53 hd h).less (e_sc (List.mem_of_getElem? (i := 2) rfl) (e_sc (List.mem_of_getElem? (i := 3) rfl) (e_sc (List.mem_of_getElem? (i := 4) rfl) (e_sc (List.mem_of_getElem? (i := 1) rfl) e_sn))))
def w_Mod_readClass (l0 : Nat) (l1 : Int32) (M : eM) (Q : eM → Prop) : Prop := e_ob M l0 12 ∧ w_Mod_next l0 0 l1 M (fun (v2 : Int32) (M1 : eM) => e_ob M1 l0 12 ∧ e_ar M1 (gr M1 l0 12) 20 l1 ∧ ∀ M3 : eM, M3 = e_si M1 (gr M1 l0 12) l1.toNatClampNeg (v2 - 1) → (¬ v2 = 0 → e_ob M3 l0 12 ∧ e_ai M3 (gr M3 l0 13) (v2 - 1) ∧ w_Mod_readClass_32 l0 l1 v2 (gi M3 (gr M3 l0 13) (v2 - 1).toNatClampNeg) M3 Q) ∧ (v2 = 0 → w_Mod_readClass_32 l0 l1 v2 0 M3 Q))
theorem b_Mod_readClass {d : Nat} {l0 : Nat} {l1 : Int32} {M : eM} {Q : eM → Prop} (hd : 2 ≤ d) (h : w_Mod_readClass l0 l1 M Q) : e_CV 149 d 0 0 [.ref l0, .int l1] M Q := by
  unfold w_Mod_readClass at h
  show e_E 149 d 0 0 0 [(0, .ref l0), (1, .int l1)] [] M (e_QV Q)
  refine r_aload_n (kd149 rfl) rfl rfl ?_
  refine r_iconst (kd149 rfl) (y := 0) (by decide) rfl ?_
  refine r_iload_n (kd149 rfl) rfl rfl ?_
  obtain ⟨g, h⟩ := h
  refine r_callVI (d' := d - 1) (by omega) (kd149 rfl) (by decide) rfl rfl rfl rfl (Nat.le_of_ble_eq_true rfl) rfl L147 (Nat.le_of_ble_eq_true rfl) (Nat.le_of_ble_eq_true rfl) g (Nat.zero_le _) (Nat.zero_le _) rfl rfl rfl (b_Mod_next (by omega) h) (fun x1 M1 h => ?_)
  refine r_istore_n (kd149 rfl) L149 (by decide) rfl rfl ?_
  refine r_aload_n (kd149 rfl) rfl rfl ?_
  obtain ⟨g, h⟩ := h
  refine r_get2 (kd149 rfl) (by decide) rfl g rfl ?_
  refine r_iload_n (kd149 rfl) rfl rfl ?_
  refine r_iload_n (kd149 rfl) rfl rfl ?_
  refine r_iconst (kd149 rfl) (y := 1) (by decide) rfl ?_
  refine r_isub (kd149 rfl) rfl ?_
  obtain ⟨g, h⟩ := h
  have h := h _ rfl
  refine r_iastore (kd149 rfl) g rfl ?_
  refine r_iload_n (kd149 rfl) rfl rfl ?_
  refine r_if_ne (kd149 rfl) rfl (fun c => ?_) (fun c => ?_)
  · have h := h.1 c
    refine r_aload_n (kd149 rfl) rfl rfl ?_
    obtain ⟨g, h⟩ := h
    refine r_get2 (kd149 rfl) (by decide) rfl g rfl ?_
    refine r_iload_n (kd149 rfl) rfl rfl ?_
    refine r_iconst (kd149 rfl) (y := 1) (by decide) rfl ?_
    refine r_isub (kd149 rfl) rfl ?_
    obtain ⟨g, h⟩ := h
    refine r_iaload (kd149 rfl) g rfl ?_
    exact (b_Mod_readClass_32 hd h).less (e_sc (List.mem_of_getElem? (i := 1) rfl) (e_sc (List.mem_of_getElem? (i := 2) rfl) (e_sc (List.mem_of_getElem? (i := 0) rfl) e_sn)))
  · have h := h.2 c
    refine r_iconst (kd149 rfl) (y := 0) (by decide) rfl ?_
    refine r_goto (kd149 rfl) ?_
    exact (b_Mod_readClass_32 hd h).less (e_sc (List.mem_of_getElem? (i := 1) rfl) (e_sc (List.mem_of_getElem? (i := 2) rfl) (e_sc (List.mem_of_getElem? (i := 0) rfl) e_sn)))
/-- TierMillModel.readSelector(I)V -/
theorem kd150 {pc : Nat} {q : eI} (h : e_d150.lookup pc = some q) : e_dec 150 pc = some q := h
theorem L150 : (e_m 150).2.2.1 = 3 := rfl
theorem R150 : (e_m 150).2.2.2.1 = none := rfl
def w_Mod_readSelector_14 : Nat → Nat → Int32 → Int32 → eM → (eM → Prop) → Prop
  | 0, _, _, _, _, _ => False
  | n + 1, l0, l1, l2, M, Q => e_ob M l0 12 ∧ e_ai M (gr M l0 16) l1 ∧ ((gi M (gr M l0 16) l1.toNatClampNeg) ≤ l2 → e_ob M l0 12 ∧ e_ob M l0 12 ∧ w_Mod_type l0 1 M (fun (v6 : Int32) (M5 : eM) => e_ar M5 (gr M l0 18) 20 l1 ∧ ∀ M7 : eM, M7 = e_si M5 (gr M l0 18) l1.toNatClampNeg v6 → Q M7)) ∧ (¬ (gi M (gr M l0 16) l1.toNatClampNeg) ≤ l2 → e_ob M l0 12 ∧ e_ob M l0 12 ∧ w_Mod_type l0 0 M (fun (v9 : Int32) (M8 : eM) => e_ar M8 (gr M l0 17) 20 ((3 * l1) + l2) ∧ ∀ M10 : eM, M10 = e_si M8 (gr M l0 17) ((3 * l1) + l2).toNatClampNeg v9 → (fun l0 l1 l2 M => w_Mod_readSelector_14 n l0 l1 l2 M Q ) l0 l1 (l2 + 1) M10))
theorem b_Mod_readSelector_14 {d : Nat} {Q : eM → Prop} (hd : 2 ≤ d) (n : Nat) : ∀ (l0 : Nat) (l1 : Int32) (l2 : Int32) (M : eM), w_Mod_readSelector_14 n l0 l1 l2 M Q → e_E 150 d 0 0 14 [(0, .ref l0), (1, .int l1), (2, .int l2)] [] M (e_QV Q) := by
  induction n with
  | zero => intro l0 l1 l2 M h; exact False.elim h
  | succ n ih =>
    intro l0 l1 l2 M h
    have hk14 := ih
    refine r_iload_n (kd150 rfl) rfl rfl ?_
    refine r_aload_n (kd150 rfl) rfl rfl ?_
    obtain ⟨g, h⟩ := h
    refine r_get2 (kd150 rfl) (by decide) rfl g rfl ?_
    refine r_iload_n (kd150 rfl) rfl rfl ?_
    obtain ⟨g, h⟩ := h
    refine r_iaload (kd150 rfl) g rfl ?_
    refine r_icmp_ge (kd150 rfl) rfl (fun c => ?_) (fun c => ?_)
    · have h := h.1 c
      refine r_aload_n (kd150 rfl) rfl rfl ?_
      obtain ⟨g, h⟩ := h
      refine r_get2 (kd150 rfl) (by decide) rfl g rfl ?_
      refine r_iload_n (kd150 rfl) rfl rfl ?_
      refine r_aload_n (kd150 rfl) rfl rfl ?_
      refine r_iconst (kd150 rfl) (y := 1) (by decide) rfl ?_
      obtain ⟨g, h⟩ := h
      refine r_callVI (d' := d - 1) (by omega) (kd150 rfl) (by decide) rfl rfl rfl rfl (Nat.le_of_ble_eq_true rfl) rfl L148 (Nat.le_of_ble_eq_true rfl) (Nat.le_of_ble_eq_true rfl) g (Nat.zero_le _) (Nat.zero_le _) rfl rfl rfl (b_Mod_type (by omega) h) (fun x1 M1 h => ?_)
      obtain ⟨g, h⟩ := h
      have h := h _ rfl
      refine r_iastore (kd150 rfl) g rfl ?_
      exact r_return (kd150 rfl) R150 h
    · have h := h.2 c
      refine r_aload_n (kd150 rfl) rfl rfl ?_
      obtain ⟨g, h⟩ := h
      refine r_get2 (kd150 rfl) (by decide) rfl g rfl ?_
      refine r_iconst (kd150 rfl) (y := 3) (by decide) rfl ?_
      refine r_iload_n (kd150 rfl) rfl rfl ?_
      refine r_imul (kd150 rfl) rfl ?_
      refine r_iload_n (kd150 rfl) rfl rfl ?_
      refine r_iadd (kd150 rfl) rfl ?_
      refine r_aload_n (kd150 rfl) rfl rfl ?_
      refine r_iconst (kd150 rfl) (y := 0) (by decide) rfl ?_
      obtain ⟨g, h⟩ := h
      refine r_callVI (d' := d - 1) (by omega) (kd150 rfl) (by decide) rfl rfl rfl rfl (Nat.le_of_ble_eq_true rfl) rfl L148 (Nat.le_of_ble_eq_true rfl) (Nat.le_of_ble_eq_true rfl) g (Nat.zero_le _) (Nat.zero_le _) rfl rfl rfl (b_Mod_type (by omega) h) (fun x1 M1 h => ?_)
      obtain ⟨g, h⟩ := h
      have h := h _ rfl
      refine r_iastore (kd150 rfl) g rfl ?_
      refine r_iinc (kd150 rfl) rfl (y := 1) (by decide) L150 (by decide) rfl rfl ?_
      refine r_goto (kd150 rfl) ?_
      exact (hk14 _ _ _ _ h).less (e_sc (List.mem_of_getElem? (i := 1) rfl) (e_sc (List.mem_of_getElem? (i := 2) rfl) (e_sc (List.mem_of_getElem? (i := 0) rfl) e_sn)))
def w_Mod_readSelector (l0 : Nat) (l1 : Int32) (M : eM) (Q : eM → Prop) : Prop := e_ob M l0 12 ∧ e_ob M l0 12 ∧ w_Mod_next l0 0 3 M (fun (v2 : Int32) (M1 : eM) => e_ar M1 (gr M l0 16) 20 l1 ∧ ∀ M3 : eM, M3 = e_si M1 (gr M l0 16) l1.toNatClampNeg v2 → ∃ n4 : Nat, w_Mod_readSelector_14 n4 l0 l1 0 M3 Q)
theorem b_Mod_readSelector {d : Nat} {l0 : Nat} {l1 : Int32} {M : eM} {Q : eM → Prop} (hd : 2 ≤ d) (h : w_Mod_readSelector l0 l1 M Q) : e_CV 150 d 0 0 [.ref l0, .int l1] M Q := by
  unfold w_Mod_readSelector at h
  show e_E 150 d 0 0 0 [(0, .ref l0), (1, .int l1)] [] M (e_QV Q)
  refine r_aload_n (kd150 rfl) rfl rfl ?_
  obtain ⟨g, h⟩ := h
  refine r_get2 (kd150 rfl) (by decide) rfl g rfl ?_
  refine r_iload_n (kd150 rfl) rfl rfl ?_
  refine r_aload_n (kd150 rfl) rfl rfl ?_
  refine r_iconst (kd150 rfl) (y := 0) (by decide) rfl ?_
  refine r_iconst (kd150 rfl) (y := 3) (by decide) rfl ?_
  obtain ⟨g, h⟩ := h
  refine r_callVI (d' := d - 1) (by omega) (kd150 rfl) (by decide) rfl rfl rfl rfl (Nat.le_of_ble_eq_true rfl) rfl L147 (Nat.le_of_ble_eq_true rfl) (Nat.le_of_ble_eq_true rfl) g (Nat.zero_le _) (Nat.zero_le _) rfl rfl rfl (b_Mod_next (by omega) h) (fun x1 M1 h => ?_)
  obtain ⟨g, h⟩ := h
  have h := h _ rfl
  refine r_iastore (kd150 rfl) g rfl ?_
  refine r_iconst (kd150 rfl) (y := 0) (by decide) rfl ?_
  refine r_istore_n (kd150 rfl) L150 (by decide) rfl rfl ?_
  obtain ⟨n, h⟩ := h
  exact (b_Mod_readSelector_14 hd n _ _ _ _ h).less (e_sc (List.mem_of_getElem? (i := 1) rfl) (e_sc (List.mem_of_getElem? (i := 2) rfl) (e_sc (List.mem_of_getElem? (i := 0) rfl) e_sn)))
/-- TierMillModel.readMethod(I)V -/
theorem kd151 {pc : Nat} {q : eI} (h : e_d151.lookup pc = some q) : e_dec 151 pc = some q := h
theorem L151 : (e_m 151).2.2.1 = 3 := rfl
theorem R151 : (e_m 151).2.2.2.1 = none := rfl
def w_Mod_readMethod_102 : Nat → Nat → Int32 → Int32 → eM → (eM → Prop) → Prop
  | 0, _, _, _, _, _ => False
  | n + 1, l0, l1, l2, M, Q => e_ob M l0 12 ∧ e_ai M (gr M l0 25) l1 ∧ ((gi M (gr M l0 25) l1.toNatClampNeg) ≤ l2 → Q M) ∧ (¬ (gi M (gr M l0 25) l1.toNatClampNeg) ≤ l2 → e_ob M l0 12 ∧ e_ob M l0 12 ∧ w_Mod_next l0 0 255 M (fun (v22 : Int32) (M21 : eM) => e_ar M21 (gr M l0 26) 20 ((120 * l1) + l2) ∧ ∀ M23 : eM, M23 = e_si M21 (gr M l0 26) ((120 * l1) + l2).toNatClampNeg v22 → (fun l0 l1 l2 M => w_Mod_readMethod_102 n l0 l1 l2 M Q ) l0 l1 (l2 + 1) M23))
theorem b_Mod_readMethod_102 {d : Nat} {Q : eM → Prop} (hd : 2 ≤ d) (n : Nat) : ∀ (l0 : Nat) (l1 : Int32) (l2 : Int32) (M : eM), w_Mod_readMethod_102 n l0 l1 l2 M Q → e_E 151 d 0 0 102 [(0, .ref l0), (1, .int l1), (2, .int l2)] [] M (e_QV Q) := by
  induction n with
  | zero => intro l0 l1 l2 M h; exact False.elim h
  | succ n ih =>
    intro l0 l1 l2 M h
    have hk102 := ih
    refine r_iload_n (kd151 rfl) rfl rfl ?_
    refine r_aload_n (kd151 rfl) rfl rfl ?_
    obtain ⟨g, h⟩ := h
    refine r_get2 (kd151 rfl) (by decide) rfl g rfl ?_
    refine r_iload_n (kd151 rfl) rfl rfl ?_
    obtain ⟨g, h⟩ := h
    refine r_iaload (kd151 rfl) g rfl ?_
    refine r_icmp_ge (kd151 rfl) rfl (fun c => ?_) (fun c => ?_)
    · have h := h.1 c
      exact r_return (kd151 rfl) R151 h
    · have h := h.2 c
      refine r_aload_n (kd151 rfl) rfl rfl ?_
      obtain ⟨g, h⟩ := h
      refine r_get2 (kd151 rfl) (by decide) rfl g rfl ?_
      refine r_bipush (kd151 rfl) (y := 120) (by decide) rfl ?_
      refine r_iload_n (kd151 rfl) rfl rfl ?_
      refine r_imul (kd151 rfl) rfl ?_
      refine r_iload_n (kd151 rfl) rfl rfl ?_
      refine r_iadd (kd151 rfl) rfl ?_
      refine r_aload_n (kd151 rfl) rfl rfl ?_
      refine r_iconst (kd151 rfl) (y := 0) (by decide) rfl ?_
      refine r_sipush (kd151 rfl) (y := 255) (by decide) rfl ?_
      obtain ⟨g, h⟩ := h
      refine r_callVI (d' := d - 1) (by omega) (kd151 rfl) (by decide) rfl rfl rfl rfl (Nat.le_of_ble_eq_true rfl) rfl L147 (Nat.le_of_ble_eq_true rfl) (Nat.le_of_ble_eq_true rfl) g (Nat.zero_le _) (Nat.zero_le _) rfl rfl rfl (b_Mod_next (by omega) h) (fun x1 M1 h => ?_)
      obtain ⟨g, h⟩ := h
      have h := h _ rfl
      refine r_iastore (kd151 rfl) g rfl ?_
      refine r_iinc (kd151 rfl) rfl (y := 1) (by decide) L151 (by decide) rfl rfl ?_
      refine r_goto (kd151 rfl) ?_
      exact (hk102 _ _ _ _ h).less (e_sc (List.mem_of_getElem? (i := 1) rfl) (e_sc (List.mem_of_getElem? (i := 2) rfl) (e_sc (List.mem_of_getElem? (i := 0) rfl) e_sn)))
def w_Mod_readMethod_14 : Nat → Nat → Int32 → Int32 → eM → (eM → Prop) → Prop
  | 0, _, _, _, _, _ => False
  | n + 1, l0, l1, l2, M, Q => e_ob M l0 12 ∧ e_ai M (gr M l0 20) l1 ∧ ((gi M (gr M l0 20) l1.toNatClampNeg) ≤ l2 → e_ob M l0 12 ∧ e_ob M l0 12 ∧ w_Mod_type l0 1 M (fun (v6 : Int32) (M5 : eM) => e_ar M5 (gr M l0 22) 20 l1 ∧ ∀ M7 : eM, M7 = e_si M5 (gr M l0 22) l1.toNatClampNeg v6 → e_ob M7 l0 12 ∧ e_ob M7 l0 12 ∧ e_ai M7 (gr M7 l0 20) l1 ∧ e_ob M7 l0 12 ∧ w_Mod_next l0 (gi M7 (gr M7 l0 20) l1.toNatClampNeg) 8 M7 (fun (v9 : Int32) (M8 : eM) => e_ar M8 (gr M7 l0 23) 20 l1 ∧ ∀ M10 : eM, M10 = e_si M8 (gr M7 l0 23) l1.toNatClampNeg v9 → e_ob M10 l0 12 ∧ e_ob M10 l0 12 ∧ w_Mod_next l0 0 8 M10 (fun (v12 : Int32) (M11 : eM) => e_ar M11 (gr M10 l0 24) 20 l1 ∧ ∀ M13 : eM, M13 = e_si M11 (gr M10 l0 24) l1.toNatClampNeg v12 → e_ob M13 l0 12 ∧ e_ob M13 l0 12 ∧ w_Mod_next l0 1 120 M13 (fun (v15 : Int32) (M14 : eM) => e_ar M14 (gr M13 l0 25) 20 l1 ∧ ∀ M16 : eM, M16 = e_si M14 (gr M13 l0 25) l1.toNatClampNeg v15 → ∃ n17 : Nat, w_Mod_readMethod_102 n17 l0 l1 0 M16 Q))))) ∧ (¬ (gi M (gr M l0 20) l1.toNatClampNeg) ≤ l2 → e_ob M l0 12 ∧ e_ob M l0 12 ∧ w_Mod_type l0 0 M (fun (v19 : Int32) (M18 : eM) => e_ar M18 (gr M l0 21) 20 ((4 * l1) + l2) ∧ ∀ M20 : eM, M20 = e_si M18 (gr M l0 21) ((4 * l1) + l2).toNatClampNeg v19 → (fun l0 l1 l2 M => w_Mod_readMethod_14 n l0 l1 l2 M Q ) l0 l1 (l2 + 1) M20))
theorem b_Mod_readMethod_14 {d : Nat} {Q : eM → Prop} (hd : 2 ≤ d) (n : Nat) : ∀ (l0 : Nat) (l1 : Int32) (l2 : Int32) (M : eM), w_Mod_readMethod_14 n l0 l1 l2 M Q → e_E 151 d 0 0 14 [(0, .ref l0), (1, .int l1), (2, .int l2)] [] M (e_QV Q) := by
  induction n with
  | zero => intro l0 l1 l2 M h; exact False.elim h
  | succ n ih =>
    intro l0 l1 l2 M h
    have hk14 := ih
    refine r_iload_n (kd151 rfl) rfl rfl ?_
    refine r_aload_n (kd151 rfl) rfl rfl ?_
    obtain ⟨g, h⟩ := h
    refine r_get2 (kd151 rfl) (by decide) rfl g rfl ?_
    refine r_iload_n (kd151 rfl) rfl rfl ?_
    obtain ⟨g, h⟩ := h
    refine r_iaload (kd151 rfl) g rfl ?_
    refine r_icmp_ge (kd151 rfl) rfl (fun c => ?_) (fun c => ?_)
    · have h := h.1 c
      refine r_aload_n (kd151 rfl) rfl rfl ?_
      obtain ⟨g, h⟩ := h
      refine r_get2 (kd151 rfl) (by decide) rfl g rfl ?_
      refine r_iload_n (kd151 rfl) rfl rfl ?_
      refine r_aload_n (kd151 rfl) rfl rfl ?_
      refine r_iconst (kd151 rfl) (y := 1) (by decide) rfl ?_
      obtain ⟨g, h⟩ := h
      refine r_callVI (d' := d - 1) (by omega) (kd151 rfl) (by decide) rfl rfl rfl rfl (Nat.le_of_ble_eq_true rfl) rfl L148 (Nat.le_of_ble_eq_true rfl) (Nat.le_of_ble_eq_true rfl) g (Nat.zero_le _) (Nat.zero_le _) rfl rfl rfl (b_Mod_type (by omega) h) (fun x1 M1 h => ?_)
      obtain ⟨g, h⟩ := h
      have h := h _ rfl
      refine r_iastore (kd151 rfl) g rfl ?_
      refine r_aload_n (kd151 rfl) rfl rfl ?_
      obtain ⟨g, h⟩ := h
      refine r_get2 (kd151 rfl) (by decide) rfl g rfl ?_
      refine r_iload_n (kd151 rfl) rfl rfl ?_
      refine r_aload_n (kd151 rfl) rfl rfl ?_
      refine r_aload_n (kd151 rfl) rfl rfl ?_
      obtain ⟨g, h⟩ := h
      refine r_get2 (kd151 rfl) (by decide) rfl g rfl ?_
      refine r_iload_n (kd151 rfl) rfl rfl ?_
      obtain ⟨g, h⟩ := h
      refine r_iaload (kd151 rfl) g rfl ?_
      refine r_bipush (kd151 rfl) (y := 8) (by decide) rfl ?_
      obtain ⟨g, h⟩ := h
      refine r_callVI (d' := d - 1) (by omega) (kd151 rfl) (by decide) rfl rfl rfl rfl (Nat.le_of_ble_eq_true rfl) rfl L147 (Nat.le_of_ble_eq_true rfl) (Nat.le_of_ble_eq_true rfl) g (Nat.zero_le _) (Nat.zero_le _) rfl rfl rfl (b_Mod_next (by omega) h) (fun x1 M1 h => ?_)
      obtain ⟨g, h⟩ := h
      have h := h _ rfl
      refine r_iastore (kd151 rfl) g rfl ?_
      refine r_aload_n (kd151 rfl) rfl rfl ?_
      obtain ⟨g, h⟩ := h
      refine r_get2 (kd151 rfl) (by decide) rfl g rfl ?_
      refine r_iload_n (kd151 rfl) rfl rfl ?_
      refine r_aload_n (kd151 rfl) rfl rfl ?_
      refine r_iconst (kd151 rfl) (y := 0) (by decide) rfl ?_
      refine r_bipush (kd151 rfl) (y := 8) (by decide) rfl ?_
      obtain ⟨g, h⟩ := h
      refine r_callVI (d' := d - 1) (by omega) (kd151 rfl) (by decide) rfl rfl rfl rfl (Nat.le_of_ble_eq_true rfl) rfl L147 (Nat.le_of_ble_eq_true rfl) (Nat.le_of_ble_eq_true rfl) g (Nat.zero_le _) (Nat.zero_le _) rfl rfl rfl (b_Mod_next (by omega) h) (fun x1 M1 h => ?_)
      obtain ⟨g, h⟩ := h
      have h := h _ rfl
      refine r_iastore (kd151 rfl) g rfl ?_
      refine r_aload_n (kd151 rfl) rfl rfl ?_
      obtain ⟨g, h⟩ := h
      refine r_get2 (kd151 rfl) (by decide) rfl g rfl ?_
      refine r_iload_n (kd151 rfl) rfl rfl ?_
      refine r_aload_n (kd151 rfl) rfl rfl ?_
      refine r_iconst (kd151 rfl) (y := 1) (by decide) rfl ?_
      refine r_bipush (kd151 rfl) (y := 120) (by decide) rfl ?_
      obtain ⟨g, h⟩ := h
      refine r_callVI (d' := d - 1) (by omega) (kd151 rfl) (by decide) rfl rfl rfl rfl (Nat.le_of_ble_eq_true rfl) rfl L147 (Nat.le_of_ble_eq_true rfl) (Nat.le_of_ble_eq_true rfl) g (Nat.zero_le _) (Nat.zero_le _) rfl rfl rfl (b_Mod_next (by omega) h) (fun x1 M1 h => ?_)
      obtain ⟨g, h⟩ := h
      have h := h _ rfl
      refine r_iastore (kd151 rfl) g rfl ?_
      refine r_iconst (kd151 rfl) (y := 0) (by decide) rfl ?_
      refine r_istore_n (kd151 rfl) L151 (by decide) rfl rfl ?_
      obtain ⟨n, h⟩ := h
      exact (b_Mod_readMethod_102 hd n _ _ _ _ h).less (e_sc (List.mem_of_getElem? (i := 1) rfl) (e_sc (List.mem_of_getElem? (i := 2) rfl) (e_sc (List.mem_of_getElem? (i := 0) rfl) e_sn)))
    · have h := h.2 c
      refine r_aload_n (kd151 rfl) rfl rfl ?_
      obtain ⟨g, h⟩ := h
      refine r_get2 (kd151 rfl) (by decide) rfl g rfl ?_
      refine r_iconst (kd151 rfl) (y := 4) (by decide) rfl ?_
      refine r_iload_n (kd151 rfl) rfl rfl ?_
      refine r_imul (kd151 rfl) rfl ?_
      refine r_iload_n (kd151 rfl) rfl rfl ?_
      refine r_iadd (kd151 rfl) rfl ?_
      refine r_aload_n (kd151 rfl) rfl rfl ?_
      refine r_iconst (kd151 rfl) (y := 0) (by decide) rfl ?_
      obtain ⟨g, h⟩ := h
      refine r_callVI (d' := d - 1) (by omega) (kd151 rfl) (by decide) rfl rfl rfl rfl (Nat.le_of_ble_eq_true rfl) rfl L148 (Nat.le_of_ble_eq_true rfl) (Nat.le_of_ble_eq_true rfl) g (Nat.zero_le _) (Nat.zero_le _) rfl rfl rfl (b_Mod_type (by omega) h) (fun x1 M1 h => ?_)
      obtain ⟨g, h⟩ := h
      have h := h _ rfl
      refine r_iastore (kd151 rfl) g rfl ?_
      refine r_iinc (kd151 rfl) rfl (y := 1) (by decide) L151 (by decide) rfl rfl ?_
      refine r_goto (kd151 rfl) ?_
      exact (hk14 _ _ _ _ h).less (e_sc (List.mem_of_getElem? (i := 1) rfl) (e_sc (List.mem_of_getElem? (i := 2) rfl) (e_sc (List.mem_of_getElem? (i := 0) rfl) e_sn)))
def w_Mod_readMethod (l0 : Nat) (l1 : Int32) (M : eM) (Q : eM → Prop) : Prop := e_ob M l0 12 ∧ e_ob M l0 12 ∧ w_Mod_next l0 0 4 M (fun (v2 : Int32) (M1 : eM) => e_ar M1 (gr M l0 20) 20 l1 ∧ ∀ M3 : eM, M3 = e_si M1 (gr M l0 20) l1.toNatClampNeg v2 → ∃ n4 : Nat, w_Mod_readMethod_14 n4 l0 l1 0 M3 Q)
theorem b_Mod_readMethod {d : Nat} {l0 : Nat} {l1 : Int32} {M : eM} {Q : eM → Prop} (hd : 2 ≤ d) (h : w_Mod_readMethod l0 l1 M Q) : e_CV 151 d 0 0 [.ref l0, .int l1] M Q := by
  unfold w_Mod_readMethod at h
  show e_E 151 d 0 0 0 [(0, .ref l0), (1, .int l1)] [] M (e_QV Q)
  refine r_aload_n (kd151 rfl) rfl rfl ?_
  obtain ⟨g, h⟩ := h
  refine r_get2 (kd151 rfl) (by decide) rfl g rfl ?_
  refine r_iload_n (kd151 rfl) rfl rfl ?_
  refine r_aload_n (kd151 rfl) rfl rfl ?_
  refine r_iconst (kd151 rfl) (y := 0) (by decide) rfl ?_
  refine r_iconst (kd151 rfl) (y := 4) (by decide) rfl ?_
  obtain ⟨g, h⟩ := h
  refine r_callVI (d' := d - 1) (by omega) (kd151 rfl) (by decide) rfl rfl rfl rfl (Nat.le_of_ble_eq_true rfl) rfl L147 (Nat.le_of_ble_eq_true rfl) (Nat.le_of_ble_eq_true rfl) g (Nat.zero_le _) (Nat.zero_le _) rfl rfl rfl (b_Mod_next (by omega) h) (fun x1 M1 h => ?_)
  obtain ⟨g, h⟩ := h
  have h := h _ rfl
  refine r_iastore (kd151 rfl) g rfl ?_
  refine r_iconst (kd151 rfl) (y := 0) (by decide) rfl ?_
  refine r_istore_n (kd151 rfl) L151 (by decide) rfl rfl ?_
  obtain ⟨n, h⟩ := h
  exact (b_Mod_readMethod_14 hd n _ _ _ _ h).less (e_sc (List.mem_of_getElem? (i := 1) rfl) (e_sc (List.mem_of_getElem? (i := 2) rfl) (e_sc (List.mem_of_getElem? (i := 0) rfl) e_sn)))
/-- TierMillModel.isBelow(II)Z -/
theorem kd152 {pc : Nat} {q : eI} (h : e_d152.lookup pc = some q) : e_dec 152 pc = some q := h
theorem L152 : (e_m 152).2.2.1 = 4 := rfl
theorem R152 : (e_m 152).2.2.2.1 = (some .boolean) := rfl
def w_Mod_isBelow_35 (s0 : Int32) (M : eM) (Q : Int32 → eM → Prop) : Prop := (s0 = 0 ∨ s0 = 1) ∧ Q s0 M
theorem b_Mod_isBelow_35 {d : Nat} {s0 : Int32} {M : eM} {Q : Int32 → eM → Prop} (hd : 0 ≤ d) (h : w_Mod_isBelow_35 s0 M Q ) : e_E 152 d 0 0 35 [] [.int s0] M (e_QI Q) := by
  unfold w_Mod_isBelow_35 at h
  exact r_zreturn (kd152 rfl) R152 h.1 h.2
def w_Mod_isBelow_26 (l3 : Int32) (M : eM) (Q : Int32 → eM → Prop) : Prop := (l3 < 0 → w_Mod_isBelow_35 0 M Q) ∧ (¬ l3 < 0 → w_Mod_isBelow_35 1 M Q)
theorem b_Mod_isBelow_26 {d : Nat} {l3 : Int32} {M : eM} {Q : Int32 → eM → Prop} (hd : 0 ≤ d) (h : w_Mod_isBelow_26 l3 M Q ) : e_E 152 d 0 0 26 [(3, .int l3)] [] M (e_QI Q) := by
  unfold w_Mod_isBelow_26 at h
  refine r_iload_n (kd152 rfl) rfl rfl ?_
  refine r_if_lt (kd152 rfl) rfl (fun c => ?_) (fun c => ?_)
  · have h := h.1 c
    refine r_iconst (kd152 rfl) (y := 0) (by decide) rfl ?_
    exact (b_Mod_isBelow_35 hd h).less e_sn
  · have h := h.2 c
    refine r_iconst (kd152 rfl) (y := 1) (by decide) rfl ?_
    refine r_goto (kd152 rfl) ?_
    exact (b_Mod_isBelow_35 hd h).less e_sn
def w_Mod_isBelow_7 : Nat → Nat → Int32 → Int32 → eM → (Int32 → eM → Prop) → Prop
  | 0, _, _, _, _, _ => False
  | n + 1, l0, l2, l3, M, Q => (l3 < 0 → w_Mod_isBelow_26 l3 M Q) ∧ (¬ l3 < 0 → (l3 = l2 → w_Mod_isBelow_26 l3 M Q) ∧ (¬ l3 = l2 → e_ob M l0 12 ∧ e_ai M (gr M l0 12) l3 ∧ (fun l0 l2 l3 M => w_Mod_isBelow_7 n l0 l2 l3 M Q ) l0 l2 (gi M (gr M l0 12) l3.toNatClampNeg) M))
theorem b_Mod_isBelow_7 {d : Nat} {Q : Int32 → eM → Prop} (hd : 0 ≤ d) (n : Nat) : ∀ (l0 : Nat) (l2 : Int32) (l3 : Int32) (M : eM), w_Mod_isBelow_7 n l0 l2 l3 M Q → e_E 152 d 0 0 7 [(0, .ref l0), (2, .int l2), (3, .int l3)] [] M (e_QI Q) := by
  induction n with
  | zero => intro l0 l2 l3 M h; exact False.elim h
  | succ n ih =>
    intro l0 l2 l3 M h
    have hk7 := ih
    refine r_iload_n (kd152 rfl) rfl rfl ?_
    refine r_if_lt (kd152 rfl) rfl (fun c => ?_) (fun c => ?_)
    · have h := h.1 c
      exact (b_Mod_isBelow_26 hd h).less (e_sc (List.mem_of_getElem? (i := 2) rfl) e_sn)
    · have h := h.2 c
      refine r_iload_n (kd152 rfl) rfl rfl ?_
      refine r_iload_n (kd152 rfl) rfl rfl ?_
      refine r_icmp_eq (kd152 rfl) rfl (fun c => ?_) (fun c => ?_)
      · have h := h.1 c
        exact (b_Mod_isBelow_26 hd h).less (e_sc (List.mem_of_getElem? (i := 2) rfl) e_sn)
      · have h := h.2 c
        refine r_aload_n (kd152 rfl) rfl rfl ?_
        obtain ⟨g, h⟩ := h
        refine r_get2 (kd152 rfl) (by decide) rfl g rfl ?_
        refine r_iload_n (kd152 rfl) rfl rfl ?_
        obtain ⟨g, h⟩ := h
        refine r_iaload (kd152 rfl) g rfl ?_
        refine r_istore_n (kd152 rfl) L152 (by decide) rfl rfl ?_
        refine r_goto (kd152 rfl) ?_
        exact (hk7 _ _ _ _ h).less (e_sc (List.mem_of_getElem? (i := 1) rfl) (e_sc (List.mem_of_getElem? (i := 2) rfl) (e_sc (List.mem_of_getElem? (i := 0) rfl) e_sn)))
def w_Mod_isBelow (l0 : Nat) (l1 : Int32) (l2 : Int32) (M : eM) (Q : Int32 → eM → Prop) : Prop := e_ob M l0 12 ∧ e_ai M (gr M l0 12) l1 ∧ ∃ n1 : Nat, w_Mod_isBelow_7 n1 l0 l2 (gi M (gr M l0 12) l1.toNatClampNeg) M Q
theorem b_Mod_isBelow {d : Nat} {l0 : Nat} {l1 : Int32} {l2 : Int32} {M : eM} {Q : Int32 → eM → Prop} (hd : 0 ≤ d) (h : w_Mod_isBelow l0 l1 l2 M Q) : e_CI 152 d 0 0 [.ref l0, .int l1, .int l2] M Q := by
  unfold w_Mod_isBelow at h
  show e_E 152 d 0 0 0 [(0, .ref l0), (1, .int l1), (2, .int l2)] [] M (e_QI Q)
  refine r_aload_n (kd152 rfl) rfl rfl ?_
  obtain ⟨g, h⟩ := h
  refine r_get2 (kd152 rfl) (by decide) rfl g rfl ?_
  refine r_iload_n (kd152 rfl) rfl rfl ?_
  obtain ⟨g, h⟩ := h
  refine r_iaload (kd152 rfl) g rfl ?_
  refine r_istore_n (kd152 rfl) L152 (by decide) rfl rfl ?_
  obtain ⟨n, h⟩ := h
  exact (b_Mod_isBelow_7 hd n _ _ _ _ h).less (e_sc (List.mem_of_getElem? (i := 1) rfl) (e_sc (List.mem_of_getElem? (i := 3) rfl) (e_sc (List.mem_of_getElem? (i := 0) rfl) e_sn)))
/-- TierMillModel.isOf(II)Z -/
theorem kd153 {pc : Nat} {q : eI} (h : e_d153.lookup pc = some q) : e_dec 153 pc = some q := h
theorem L153 : (e_m 153).2.2.1 = 3 := rfl
theorem R153 : (e_m 153).2.2.2.1 = (some .boolean) := rfl
def w_Mod_isOf_19 (s0 : Int32) (M : eM) (Q : Int32 → eM → Prop) : Prop := (s0 = 0 ∨ s0 = 1) ∧ Q s0 M
theorem b_Mod_isOf_19 {d : Nat} {s0 : Int32} {M : eM} {Q : Int32 → eM → Prop} (hd : 1 ≤ d) (h : w_Mod_isOf_19 s0 M Q ) : e_E 153 d 0 0 19 [] [.int s0] M (e_QI Q) := by
  unfold w_Mod_isOf_19 at h
  exact r_zreturn (kd153 rfl) R153 h.1 h.2
def w_Mod_isOf_14 (M : eM) (Q : Int32 → eM → Prop) : Prop := w_Mod_isOf_19 1 M Q
theorem b_Mod_isOf_14 {d : Nat} {M : eM} {Q : Int32 → eM → Prop} (hd : 1 ≤ d) (h : w_Mod_isOf_14 M Q ) : e_E 153 d 0 0 14 [] [] M (e_QI Q) := by
  unfold w_Mod_isOf_14 at h
  refine r_iconst (kd153 rfl) (y := 1) (by decide) rfl ?_
  refine r_goto (kd153 rfl) ?_
  exact (b_Mod_isOf_19 hd h).less e_sn
def w_Mod_isOf (l0 : Nat) (l1 : Int32) (l2 : Int32) (M : eM) (Q : Int32 → eM → Prop) : Prop := (l1 = l2 → w_Mod_isOf_14 M Q) ∧ (¬ l1 = l2 → e_ob M l0 12 ∧ w_Mod_isBelow l0 l1 l2 M (fun (v2 : Int32) (M1 : eM) => (v2 = 0 → w_Mod_isOf_19 0 M1 Q) ∧ (¬ v2 = 0 → w_Mod_isOf_14 M1 Q)))
theorem b_Mod_isOf {d : Nat} {l0 : Nat} {l1 : Int32} {l2 : Int32} {M : eM} {Q : Int32 → eM → Prop} (hd : 1 ≤ d) (h : w_Mod_isOf l0 l1 l2 M Q) : e_CI 153 d 0 0 [.ref l0, .int l1, .int l2] M Q := by
  unfold w_Mod_isOf at h
  show e_E 153 d 0 0 0 [(0, .ref l0), (1, .int l1), (2, .int l2)] [] M (e_QI Q)
  refine r_iload_n (kd153 rfl) rfl rfl ?_
  refine r_iload_n (kd153 rfl) rfl rfl ?_
  refine r_icmp_eq (kd153 rfl) rfl (fun c => ?_) (fun c => ?_)
  · have h := h.1 c
    exact (b_Mod_isOf_14 hd h).less e_sn
  · have h := h.2 c
    refine r_aload_n (kd153 rfl) rfl rfl ?_
    refine r_iload_n (kd153 rfl) rfl rfl ?_
    refine r_iload_n (kd153 rfl) rfl rfl ?_
    obtain ⟨g, h⟩ := h
    refine r_callVI (d' := d - 1) (by omega) (kd153 rfl) (by decide) rfl rfl rfl rfl (Nat.le_of_ble_eq_true rfl) rfl L152 (Nat.le_of_ble_eq_true rfl) (Nat.le_of_ble_eq_true rfl) g (Nat.zero_le _) (Nat.zero_le _) rfl rfl rfl (b_Mod_isBelow (by omega) h) (fun x1 M1 h => ?_)
    refine r_if_eq (kd153 rfl) rfl (fun c => ?_) (fun c => ?_)
    · have h := h.1 c
      refine r_iconst (kd153 rfl) (y := 0) (by decide) rfl ?_
      exact (b_Mod_isOf_19 hd h).less e_sn
    · have h := h.2 c
      exact (b_Mod_isOf_14 hd h).less e_sn
/-- TierMillModel.mayStand(III)Z -/
theorem kd154 {pc : Nat} {q : eI} (h : e_d154.lookup pc = some q) : e_dec 154 pc = some q := h
theorem L154 : (e_m 154).2.2.1 = 5 := rfl
theorem R154 : (e_m 154).2.2.2.1 = (some .boolean) := rfl
def w_Mod_mayStand_64 (M : eM) (Q : Int32 → eM → Prop) : Prop := ((0 : Int32) = 0 ∨ (0 : Int32) = 1) ∧ Q (0 : Int32) M
theorem b_Mod_mayStand_64 {d : Nat} {M : eM} {Q : Int32 → eM → Prop} (hd : 2 ≤ d) (h : w_Mod_mayStand_64 M Q ) : e_E 154 d 0 0 64 [] [] M (e_QI Q) := by
  unfold w_Mod_mayStand_64 at h
  refine r_iconst (kd154 rfl) (y := 0) (by decide) rfl ?_
  exact r_zreturn (kd154 rfl) R154 h.1 h.2
def w_Mod_mayStand_69 : Nat → Nat → Int32 → Int32 → Int32 → eM → (Int32 → eM → Prop) → Prop
  | 0, _, _, _, _, _, _ => False
  | n + 1, l0, l2, l3, l4, M, Q => e_ob M l0 12 ∧ e_ai M (gr M l0 16) l2 ∧ ((gi M (gr M l0 16) l2.toNatClampNeg) ≤ l4 → ((1 : Int32) = 0 ∨ (1 : Int32) = 1) ∧ Q (1 : Int32) M) ∧ (¬ (gi M (gr M l0 16) l2.toNatClampNeg) ≤ l4 → e_ob M l0 12 ∧ e_ai M (gr M l0 21) (((4 * l3) + 1) + l4) ∧ e_ob M l0 12 ∧ e_ai M (gr M l0 17) ((3 * l2) + l4) ∧ ((gi M (gr M l0 21) (((4 * l3) + 1) + l4).toNatClampNeg) = (gi M (gr M l0 17) ((3 * l2) + l4).toNatClampNeg) → (fun l0 l2 l3 l4 M => w_Mod_mayStand_69 n l0 l2 l3 l4 M Q ) l0 l2 l3 (l4 + 1) M) ∧ (¬ (gi M (gr M l0 21) (((4 * l3) + 1) + l4).toNatClampNeg) = (gi M (gr M l0 17) ((3 * l2) + l4).toNatClampNeg) → ((0 : Int32) = 0 ∨ (0 : Int32) = 1) ∧ Q (0 : Int32) M))
theorem b_Mod_mayStand_69 {d : Nat} {Q : Int32 → eM → Prop} (hd : 2 ≤ d) (n : Nat) : ∀ (l0 : Nat) (l2 : Int32) (l3 : Int32) (l4 : Int32) (M : eM), w_Mod_mayStand_69 n l0 l2 l3 l4 M Q → e_E 154 d 0 0 69 [(0, .ref l0), (2, .int l2), (3, .int l3), (4, .int l4)] [] M (e_QI Q) := by
  induction n with
  | zero => intro l0 l2 l3 l4 M h; exact False.elim h
  | succ n ih =>
    intro l0 l2 l3 l4 M h
    have hk69 := ih
    refine r_iload (kd154 rfl) rfl rfl ?_
    refine r_aload_n (kd154 rfl) rfl rfl ?_
    obtain ⟨g, h⟩ := h
    refine r_get2 (kd154 rfl) (by decide) rfl g rfl ?_
    refine r_iload_n (kd154 rfl) rfl rfl ?_
    obtain ⟨g, h⟩ := h
    refine r_iaload (kd154 rfl) g rfl ?_
    refine r_icmp_ge (kd154 rfl) rfl (fun c => ?_) (fun c => ?_)
    · have h := h.1 c
      refine r_iconst (kd154 rfl) (y := 1) (by decide) rfl ?_
      exact r_zreturn (kd154 rfl) R154 h.1 h.2
    · have h := h.2 c
      refine r_aload_n (kd154 rfl) rfl rfl ?_
      obtain ⟨g, h⟩ := h
      refine r_get2 (kd154 rfl) (by decide) rfl g rfl ?_
      refine r_iconst (kd154 rfl) (y := 4) (by decide) rfl ?_
      refine r_iload_n (kd154 rfl) rfl rfl ?_
      refine r_imul (kd154 rfl) rfl ?_
      refine r_iconst (kd154 rfl) (y := 1) (by decide) rfl ?_
      refine r_iadd (kd154 rfl) rfl ?_
      refine r_iload (kd154 rfl) rfl rfl ?_
      refine r_iadd (kd154 rfl) rfl ?_
      obtain ⟨g, h⟩ := h
      refine r_iaload (kd154 rfl) g rfl ?_
      refine r_aload_n (kd154 rfl) rfl rfl ?_
      obtain ⟨g, h⟩ := h
      refine r_get2 (kd154 rfl) (by decide) rfl g rfl ?_
      refine r_iconst (kd154 rfl) (y := 3) (by decide) rfl ?_
      refine r_iload_n (kd154 rfl) rfl rfl ?_
      refine r_imul (kd154 rfl) rfl ?_
      refine r_iload (kd154 rfl) rfl rfl ?_
      refine r_iadd (kd154 rfl) rfl ?_
      obtain ⟨g, h⟩ := h
      refine r_iaload (kd154 rfl) g rfl ?_
      refine r_icmp_eq (kd154 rfl) rfl (fun c => ?_) (fun c => ?_)
      · have h := h.1 c
        refine r_iinc (kd154 rfl) rfl (y := 1) (by decide) L154 (by decide) rfl rfl ?_
        refine r_goto (kd154 rfl) ?_
        exact (hk69 _ _ _ _ _ h).less (e_sc (List.mem_of_getElem? (i := 1) rfl) (e_sc (List.mem_of_getElem? (i := 2) rfl) (e_sc (List.mem_of_getElem? (i := 3) rfl) (e_sc (List.mem_of_getElem? (i := 0) rfl) e_sn))))
      · have h := h.2 c
        refine r_iconst (kd154 rfl) (y := 0) (by decide) rfl ?_
        exact r_zreturn (kd154 rfl) R154 h.1 h.2
def w_Mod_mayStand (l0 : Nat) (l1 : Int32) (l2 : Int32) (l3 : Int32) (M : eM) (Q : Int32 → eM → Prop) : Prop := e_ob M l0 12 ∧ e_ai M (gr M l0 20) l3 ∧ e_ob M l0 12 ∧ e_ai M (gr M l0 16) l2 ∧ (¬ (gi M (gr M l0 20) l3.toNatClampNeg) = ((gi M (gr M l0 16) l2.toNatClampNeg) + 1) → w_Mod_mayStand_64 M Q) ∧ ((gi M (gr M l0 20) l3.toNatClampNeg) = ((gi M (gr M l0 16) l2.toNatClampNeg) + 1) → e_ob M l0 12 ∧ e_ai M (gr M l0 22) l3 ∧ e_ob M l0 12 ∧ e_ai M (gr M l0 18) l2 ∧ (¬ (gi M (gr M l0 22) l3.toNatClampNeg) = (gi M (gr M l0 18) l2.toNatClampNeg) → w_Mod_mayStand_64 M Q) ∧ ((gi M (gr M l0 22) l3.toNatClampNeg) = (gi M (gr M l0 18) l2.toNatClampNeg) → e_ob M l0 12 ∧ e_ai M (gr M l0 21) (4 * l3) ∧ ((gi M (gr M l0 21) (4 * l3).toNatClampNeg) < 16 → w_Mod_mayStand_64 M Q) ∧ (¬ (gi M (gr M l0 21) (4 * l3).toNatClampNeg) < 16 → e_ob M l0 12 ∧ e_ai M (gr M l0 21) (4 * l3) ∧ e_ob M l0 12 ∧ w_Mod_isOf l0 l1 ((gi M (gr M l0 21) (4 * l3).toNatClampNeg) - 16) M (fun (v2 : Int32) (M1 : eM) => (¬ v2 = 0 → ∃ n3 : Nat, w_Mod_mayStand_69 n3 l0 l2 l3 0 M1 Q) ∧ (v2 = 0 → w_Mod_mayStand_64 M1 Q)))))
theorem b_Mod_mayStand {d : Nat} {l0 : Nat} {l1 : Int32} {l2 : Int32} {l3 : Int32} {M : eM} {Q : Int32 → eM → Prop} (hd : 2 ≤ d) (h : w_Mod_mayStand l0 l1 l2 l3 M Q) : e_CI 154 d 0 0 [.ref l0, .int l1, .int l2, .int l3] M Q := by
  unfold w_Mod_mayStand at h
  show e_E 154 d 0 0 0 [(0, .ref l0), (1, .int l1), (2, .int l2), (3, .int l3)] [] M (e_QI Q)
  refine r_aload_n (kd154 rfl) rfl rfl ?_
  obtain ⟨g, h⟩ := h
  refine r_get2 (kd154 rfl) (by decide) rfl g rfl ?_
  refine r_iload_n (kd154 rfl) rfl rfl ?_
  obtain ⟨g, h⟩ := h
  refine r_iaload (kd154 rfl) g rfl ?_
  refine r_aload_n (kd154 rfl) rfl rfl ?_
  obtain ⟨g, h⟩ := h
  refine r_get2 (kd154 rfl) (by decide) rfl g rfl ?_
  refine r_iload_n (kd154 rfl) rfl rfl ?_
  obtain ⟨g, h⟩ := h
  refine r_iaload (kd154 rfl) g rfl ?_
  refine r_iconst (kd154 rfl) (y := 1) (by decide) rfl ?_
  refine r_iadd (kd154 rfl) rfl ?_
  refine r_icmp_ne (kd154 rfl) rfl (fun c => ?_) (fun c => ?_)
  · have h := h.1 c
    exact (b_Mod_mayStand_64 hd h).less e_sn
  · have h := h.2 c
    refine r_aload_n (kd154 rfl) rfl rfl ?_
    obtain ⟨g, h⟩ := h
    refine r_get2 (kd154 rfl) (by decide) rfl g rfl ?_
    refine r_iload_n (kd154 rfl) rfl rfl ?_
    obtain ⟨g, h⟩ := h
    refine r_iaload (kd154 rfl) g rfl ?_
    refine r_aload_n (kd154 rfl) rfl rfl ?_
    obtain ⟨g, h⟩ := h
    refine r_get2 (kd154 rfl) (by decide) rfl g rfl ?_
    refine r_iload_n (kd154 rfl) rfl rfl ?_
    obtain ⟨g, h⟩ := h
    refine r_iaload (kd154 rfl) g rfl ?_
    refine r_icmp_ne (kd154 rfl) rfl (fun c => ?_) (fun c => ?_)
    · have h := h.1 c
      exact (b_Mod_mayStand_64 hd h).less e_sn
    · have h := h.2 c
      refine r_aload_n (kd154 rfl) rfl rfl ?_
      obtain ⟨g, h⟩ := h
      refine r_get2 (kd154 rfl) (by decide) rfl g rfl ?_
      refine r_iconst (kd154 rfl) (y := 4) (by decide) rfl ?_
      refine r_iload_n (kd154 rfl) rfl rfl ?_
      refine r_imul (kd154 rfl) rfl ?_
      obtain ⟨g, h⟩ := h
      refine r_iaload (kd154 rfl) g rfl ?_
      refine r_bipush (kd154 rfl) (y := 16) (by decide) rfl ?_
      refine r_icmp_lt (kd154 rfl) rfl (fun c => ?_) (fun c => ?_)
      · have h := h.1 c
        exact (b_Mod_mayStand_64 hd h).less e_sn
      · have h := h.2 c
        refine r_aload_n (kd154 rfl) rfl rfl ?_
        refine r_iload_n (kd154 rfl) rfl rfl ?_
        refine r_aload_n (kd154 rfl) rfl rfl ?_
        obtain ⟨g, h⟩ := h
        refine r_get2 (kd154 rfl) (by decide) rfl g rfl ?_
        refine r_iconst (kd154 rfl) (y := 4) (by decide) rfl ?_
        refine r_iload_n (kd154 rfl) rfl rfl ?_
        refine r_imul (kd154 rfl) rfl ?_
        obtain ⟨g, h⟩ := h
        refine r_iaload (kd154 rfl) g rfl ?_
        refine r_bipush (kd154 rfl) (y := 16) (by decide) rfl ?_
        refine r_isub (kd154 rfl) rfl ?_
        obtain ⟨g, h⟩ := h
        refine r_callVI (d' := d - 1) (by omega) (kd154 rfl) (by decide) rfl rfl rfl rfl (Nat.le_of_ble_eq_true rfl) rfl L153 (Nat.le_of_ble_eq_true rfl) (Nat.le_of_ble_eq_true rfl) g (Nat.zero_le _) (Nat.zero_le _) rfl rfl rfl (b_Mod_isOf (by omega) h) (fun x1 M1 h => ?_)
        refine r_if_ne (kd154 rfl) rfl (fun c => ?_) (fun c => ?_)
        · have h := h.1 c
          refine r_iconst (kd154 rfl) (y := 0) (by decide) rfl ?_
          refine r_istore (kd154 rfl) L154 (by decide) rfl rfl ?_
          obtain ⟨n, h⟩ := h
          exact (b_Mod_mayStand_69 hd n _ _ _ _ _ h).less (e_sc (List.mem_of_getElem? (i := 1) rfl) (e_sc (List.mem_of_getElem? (i := 3) rfl) (e_sc (List.mem_of_getElem? (i := 4) rfl) (e_sc (List.mem_of_getElem? (i := 0) rfl) e_sn))))
        · have h := h.2 c
          exact (b_Mod_mayStand_64 hd h).less e_sn
/-- TierMillModel.readTable(II)V -/
theorem kd155 {pc : Nat} {q : eI} (h : e_d155.lookup pc = some q) : e_dec 155 pc = some q := h
theorem L155 : (e_m 155).2.2.1 = 4 := rfl
theorem R155 : (e_m 155).2.2.2.1 = none := rfl
def w_Mod_readTable_45 (M : eM) (Q : eM → Prop) : Prop := Q M
theorem b_Mod_readTable_45 {d : Nat} {M : eM} {Q : eM → Prop} (hd : 3 ≤ d) (h : w_Mod_readTable_45 M Q ) : e_E 155 d 0 0 45 [] [] M (e_QV Q) := by
  unfold w_Mod_readTable_45 at h
  exact r_return (kd155 rfl) R155 h
def w_Mod_readTable (l0 : Nat) (l1 : Int32) (l2 : Int32) (M : eM) (Q : eM → Prop) : Prop := e_ob M l0 12 ∧ e_ob M l0 12 ∧ w_Mod_next l0 0 (gi M l0 19) M (fun (v2 : Int32) (M1 : eM) => e_ob M1 l0 12 ∧ e_ar M1 (gr M1 l0 28) 20 ((8 * l1) + l2) ∧ ∀ M3 : eM, M3 = e_si M1 (gr M1 l0 28) ((8 * l1) + l2).toNatClampNeg v2 → e_ob M3 l0 12 ∧ (¬ (gi M3 l0 82) = 0 → w_Mod_readTable_45 M3 Q) ∧ ((gi M3 l0 82) = 0 → (v2 = 0 → w_Mod_readTable_45 M3 Q) ∧ (¬ v2 = 0 → e_ob M3 l0 12 ∧ w_Mod_mayStand l0 l1 l2 (v2 - 1) M3 (fun (v5 : Int32) (M4 : eM) => (v5 = 0 → e_ob M4 l0 12 ∧ e_ob M4 l0 12 ∧ ∀ M6 : eM, M6 = e_si M4 l0 81 ((gi M4 l0 81) - 1) → e_ob M6 l0 12 ∧ ((1 : Int32) = 0 ∨ (1 : Int32) = 1) ∧ ∀ M7 : eM, M7 = e_si M6 l0 82 (1 : Int32) → Q M7) ∧ (¬ v5 = 0 → w_Mod_readTable_45 M4 Q)))))
theorem b_Mod_readTable {d : Nat} {l0 : Nat} {l1 : Int32} {l2 : Int32} {M : eM} {Q : eM → Prop} (hd : 3 ≤ d) (h : w_Mod_readTable l0 l1 l2 M Q) : e_CV 155 d 0 0 [.ref l0, .int l1, .int l2] M Q := by
  unfold w_Mod_readTable at h
  show e_E 155 d 0 0 0 [(0, .ref l0), (1, .int l1), (2, .int l2)] [] M (e_QV Q)
  refine r_aload_n (kd155 rfl) rfl rfl ?_
  refine r_iconst (kd155 rfl) (y := 0) (by decide) rfl ?_
  refine r_aload_n (kd155 rfl) rfl rfl ?_
  obtain ⟨g, h⟩ := h
  refine r_get0 (kd155 rfl) (by decide) rfl g rfl ?_
  obtain ⟨g, h⟩ := h
  refine r_callVI (d' := d - 1) (by omega) (kd155 rfl) (by decide) rfl rfl rfl rfl (Nat.le_of_ble_eq_true rfl) rfl L147 (Nat.le_of_ble_eq_true rfl) (Nat.le_of_ble_eq_true rfl) g (Nat.zero_le _) (Nat.zero_le _) rfl rfl rfl (b_Mod_next (by omega) h) (fun x1 M1 h => ?_)
  refine r_istore_n (kd155 rfl) L155 (by decide) rfl rfl ?_
  refine r_aload_n (kd155 rfl) rfl rfl ?_
  obtain ⟨g, h⟩ := h
  refine r_get2 (kd155 rfl) (by decide) rfl g rfl ?_
  refine r_bipush (kd155 rfl) (y := 8) (by decide) rfl ?_
  refine r_iload_n (kd155 rfl) rfl rfl ?_
  refine r_imul (kd155 rfl) rfl ?_
  refine r_iload_n (kd155 rfl) rfl rfl ?_
  refine r_iadd (kd155 rfl) rfl ?_
  refine r_iload_n (kd155 rfl) rfl rfl ?_
  obtain ⟨g, h⟩ := h
  have h := h _ rfl
  refine r_iastore (kd155 rfl) g rfl ?_
  refine r_aload_n (kd155 rfl) rfl rfl ?_
  obtain ⟨g, h⟩ := h
  refine r_get3 (kd155 rfl) (by decide) rfl g rfl ?_
  refine r_if_ne (kd155 rfl) rfl (fun c => ?_) (fun c => ?_)
  · have h := h.1 c
    exact (b_Mod_readTable_45 hd h).less e_sn
  · have h := h.2 c
    refine r_iload_n (kd155 rfl) rfl rfl ?_
    refine r_if_eq (kd155 rfl) rfl (fun c => ?_) (fun c => ?_)
    · have h := h.1 c
      exact (b_Mod_readTable_45 hd h).less e_sn
    · have h := h.2 c
      refine r_aload_n (kd155 rfl) rfl rfl ?_
      refine r_iload_n (kd155 rfl) rfl rfl ?_
      refine r_iload_n (kd155 rfl) rfl rfl ?_
      refine r_iload_n (kd155 rfl) rfl rfl ?_
      refine r_iconst (kd155 rfl) (y := 1) (by decide) rfl ?_
      refine r_isub (kd155 rfl) rfl ?_
      obtain ⟨g, h⟩ := h
      refine r_callVI (d' := d - 1) (by omega) (kd155 rfl) (by decide) rfl rfl rfl rfl (Nat.le_of_ble_eq_true rfl) rfl L154 (Nat.le_of_ble_eq_true rfl) (Nat.le_of_ble_eq_true rfl) g (Nat.zero_le _) (Nat.zero_le _) rfl rfl rfl (b_Mod_mayStand (by omega) h) (fun x1 M1 h => ?_)
      refine r_if_eq (kd155 rfl) rfl (fun c => ?_) (fun c => ?_)
      · have h := h.1 c
        refine r_aload_n (kd155 rfl) rfl rfl ?_
        refine r_dup (kd155 rfl) rfl rfl ?_
        obtain ⟨g, h⟩ := h
        refine r_get0 (kd155 rfl) (by decide) rfl g rfl ?_
        refine r_iconst (kd155 rfl) (y := 1) (by decide) rfl ?_
        refine r_isub (kd155 rfl) rfl ?_
        obtain ⟨g, h⟩ := h
        have h := h _ rfl
        refine r_put0 (kd155 rfl) (by decide) rfl g rfl ?_
        refine r_aload_n (kd155 rfl) rfl rfl ?_
        refine r_iconst (kd155 rfl) (y := 1) (by decide) rfl ?_
        obtain ⟨g, h⟩ := h
        obtain ⟨gb, h⟩ := h
        have h := h _ rfl
        refine r_put3 (kd155 rfl) (by decide) rfl g gb rfl ?_
        exact r_return (kd155 rfl) R155 h
      · have h := h.2 c
        exact (b_Mod_readTable_45 hd h).less e_sn
/-- TierMillModel.takeApart()Z -/
theorem kd156 {pc : Nat} {q : eI} (h : e_d156.lookup pc = some q) : e_dec 156 pc = some q := h
theorem L156 : (e_m 156).2.2.1 = 2 := rfl
theorem R156 : (e_m 156).2.2.2.1 = (some .boolean) := rfl
def w_Mod_takeApart_211 (s0 : Int32) (M : eM) (Q : Int32 → eM → Prop) : Prop := (s0 = 0 ∨ s0 = 1) ∧ Q s0 M
theorem b_Mod_takeApart_211 {d : Nat} {s0 : Int32} {M : eM} {Q : Int32 → eM → Prop} (hd : 4 ≤ d) (h : w_Mod_takeApart_211 s0 M Q ) : e_E 156 d 0 0 211 [] [.int s0] M (e_QI Q) := by
  unfold w_Mod_takeApart_211 at h
  exact r_zreturn (kd156 rfl) R156 h.1 h.2
def w_Mod_takeApart_199 (l0 : Nat) (M : eM) (Q : Int32 → eM → Prop) : Prop := e_ob M l0 12 ∧ (¬ (gi M l0 82) = 0 → w_Mod_takeApart_211 0 M Q) ∧ ((gi M l0 82) = 0 → w_Mod_takeApart_211 1 M Q)
theorem b_Mod_takeApart_199 {d : Nat} {l0 : Nat} {M : eM} {Q : Int32 → eM → Prop} (hd : 4 ≤ d) (h : w_Mod_takeApart_199 l0 M Q ) : e_E 156 d 0 0 199 [(0, .ref l0)] [] M (e_QI Q) := by
  unfold w_Mod_takeApart_199 at h
  refine r_aload_n (kd156 rfl) rfl rfl ?_
  obtain ⟨g, h⟩ := h
  refine r_get3 (kd156 rfl) (by decide) rfl g rfl ?_
  refine r_if_ne (kd156 rfl) rfl (fun c => ?_) (fun c => ?_)
  · have h := h.1 c
    refine r_iconst (kd156 rfl) (y := 0) (by decide) rfl ?_
    exact (b_Mod_takeApart_211 hd h).less e_sn
  · have h := h.2 c
    refine r_iconst (kd156 rfl) (y := 1) (by decide) rfl ?_
    refine r_goto (kd156 rfl) ?_
    exact (b_Mod_takeApart_211 hd h).less e_sn
def w_Mod_takeApart_176 (l0 : Nat) (M : eM) (Q : Int32 → eM → Prop) : Prop := e_ob M l0 12 ∧ (¬ (gi M l0 82) = 0 → w_Mod_takeApart_199 l0 M Q) ∧ ((gi M l0 82) = 0 → e_ob M l0 12 ∧ e_ob M l0 12 ∧ ((gi M l0 4) ≤ (gi M l0 81) → w_Mod_takeApart_199 l0 M Q) ∧ (¬ (gi M l0 4) ≤ (gi M l0 81) → e_ob M l0 12 ∧ ((1 : Int32) = 0 ∨ (1 : Int32) = 1) ∧ ∀ M21 : eM, M21 = e_si M l0 82 (1 : Int32) → w_Mod_takeApart_199 l0 M21 Q))
theorem b_Mod_takeApart_176 {d : Nat} {l0 : Nat} {M : eM} {Q : Int32 → eM → Prop} (hd : 4 ≤ d) (h : w_Mod_takeApart_176 l0 M Q ) : e_E 156 d 0 0 176 [(0, .ref l0)] [] M (e_QI Q) := by
  unfold w_Mod_takeApart_176 at h
  refine r_aload_n (kd156 rfl) rfl rfl ?_
  obtain ⟨g, h⟩ := h
  refine r_get3 (kd156 rfl) (by decide) rfl g rfl ?_
  refine r_if_ne (kd156 rfl) rfl (fun c => ?_) (fun c => ?_)
  · have h := h.1 c
    exact (b_Mod_takeApart_199 hd h).less (e_sc (List.mem_of_getElem? (i := 0) rfl) e_sn)
  · have h := h.2 c
    refine r_aload_n (kd156 rfl) rfl rfl ?_
    obtain ⟨g, h⟩ := h
    refine r_get0 (kd156 rfl) (by decide) rfl g rfl ?_
    refine r_aload_n (kd156 rfl) rfl rfl ?_
    obtain ⟨g, h⟩ := h
    refine r_get0 (kd156 rfl) (by decide) rfl g rfl ?_
    refine r_icmp_ge (kd156 rfl) rfl (fun c => ?_) (fun c => ?_)
    · have h := h.1 c
      exact (b_Mod_takeApart_199 hd h).less (e_sc (List.mem_of_getElem? (i := 0) rfl) e_sn)
    · have h := h.2 c
      refine r_aload_n (kd156 rfl) rfl rfl ?_
      refine r_iconst (kd156 rfl) (y := 1) (by decide) rfl ?_
      obtain ⟨g, h⟩ := h
      obtain ⟨gb, h⟩ := h
      have h := h _ rfl
      refine r_put3 (kd156 rfl) (by decide) rfl g gb rfl ?_
      exact (b_Mod_takeApart_199 hd h).less (e_sc (List.mem_of_getElem? (i := 0) rfl) e_sn)
def w_Mod_takeApart_134 : Nat → Nat → Int32 → eM → (Int32 → eM → Prop) → Prop
  | 0, _, _, _, _ => False
  | n + 1, l0, l1, M, Q => e_ob M l0 12 ∧ e_ob M l0 12 ∧ (((gi M l0 11) * (gi M l0 15)) ≤ l1 → w_Mod_takeApart_176 l0 M Q) ∧ (¬ ((gi M l0 11) * (gi M l0 15)) ≤ l1 → e_ob M l0 12 ∧ (¬ (gi M l0 82) = 0 → w_Mod_takeApart_176 l0 M Q) ∧ ((gi M l0 82) = 0 → e_ob M l0 12 ∧ ¬ (gi M l0 15) = 0 ∧ e_ob M l0 12 ∧ ¬ (gi M l0 15) = 0 ∧ e_ob M l0 12 ∧ w_Mod_readTable l0 (l1 / (gi M l0 15)) (l1 - l1 / (gi M l0 15) * (gi M l0 15)) M (fun (M20 : eM) => (fun l0 l1 M => w_Mod_takeApart_134 n l0 l1 M Q ) l0 (l1 + 1) M20)))
theorem b_Mod_takeApart_134 {d : Nat} {Q : Int32 → eM → Prop} (hd : 4 ≤ d) (n : Nat) : ∀ (l0 : Nat) (l1 : Int32) (M : eM), w_Mod_takeApart_134 n l0 l1 M Q → e_E 156 d 0 0 134 [(0, .ref l0), (1, .int l1)] [] M (e_QI Q) := by
  induction n with
  | zero => intro l0 l1 M h; exact False.elim h
  | succ n ih =>
    intro l0 l1 M h
    have hk134 := ih
    refine r_iload_n (kd156 rfl) rfl rfl ?_
    refine r_aload_n (kd156 rfl) rfl rfl ?_
    obtain ⟨g, h⟩ := h
    refine r_get0 (kd156 rfl) (by decide) rfl g rfl ?_
    refine r_aload_n (kd156 rfl) rfl rfl ?_
    obtain ⟨g, h⟩ := h
    refine r_get0 (kd156 rfl) (by decide) rfl g rfl ?_
    refine r_imul (kd156 rfl) rfl ?_
    refine r_icmp_ge (kd156 rfl) rfl (fun c => ?_) (fun c => ?_)
    · have h := h.1 c
      exact (b_Mod_takeApart_176 hd h).less (e_sc (List.mem_of_getElem? (i := 0) rfl) e_sn)
    · have h := h.2 c
      refine r_aload_n (kd156 rfl) rfl rfl ?_
      obtain ⟨g, h⟩ := h
      refine r_get3 (kd156 rfl) (by decide) rfl g rfl ?_
      refine r_if_ne (kd156 rfl) rfl (fun c => ?_) (fun c => ?_)
      · have h := h.1 c
        exact (b_Mod_takeApart_176 hd h).less (e_sc (List.mem_of_getElem? (i := 0) rfl) e_sn)
      · have h := h.2 c
        refine r_aload_n (kd156 rfl) rfl rfl ?_
        refine r_iload_n (kd156 rfl) rfl rfl ?_
        refine r_aload_n (kd156 rfl) rfl rfl ?_
        obtain ⟨g, h⟩ := h
        refine r_get0 (kd156 rfl) (by decide) rfl g rfl ?_
        obtain ⟨g, h⟩ := h
        refine r_idiv (kd156 rfl) g rfl ?_
        refine r_iload_n (kd156 rfl) rfl rfl ?_
        refine r_aload_n (kd156 rfl) rfl rfl ?_
        obtain ⟨g, h⟩ := h
        refine r_get0 (kd156 rfl) (by decide) rfl g rfl ?_
        obtain ⟨g, h⟩ := h
        refine r_irem (kd156 rfl) g rfl ?_
        obtain ⟨g, h⟩ := h
        refine r_callVV (d' := d - 1) (by omega) (kd156 rfl) (by decide) rfl rfl rfl rfl (Nat.le_of_ble_eq_true rfl) rfl L155 (Nat.le_of_ble_eq_true rfl) (Nat.le_of_ble_eq_true rfl) g (Nat.zero_le _) (Nat.zero_le _) rfl rfl rfl (b_Mod_readTable (by omega) h) (fun M1 h => ?_)
        refine r_iinc (kd156 rfl) rfl (y := 1) (by decide) L156 (by decide) rfl rfl ?_
        refine r_goto (kd156 rfl) ?_
        exact (hk134 _ _ _ h).less (e_sc (List.mem_of_getElem? (i := 1) rfl) (e_sc (List.mem_of_getElem? (i := 0) rfl) e_sn))
def w_Mod_takeApart_132 (l0 : Nat) (M : eM) (Q : Int32 → eM → Prop) : Prop := ∃ n19 : Nat, w_Mod_takeApart_134 n19 l0 0 M Q
theorem b_Mod_takeApart_132 {d : Nat} {l0 : Nat} {M : eM} {Q : Int32 → eM → Prop} (hd : 4 ≤ d) (h : w_Mod_takeApart_132 l0 M Q ) : e_E 156 d 0 0 132 [(0, .ref l0)] [] M (e_QI Q) := by
  unfold w_Mod_takeApart_132 at h
  refine r_iconst (kd156 rfl) (y := 0) (by decide) rfl ?_
  refine r_istore_n (kd156 rfl) L156 (by decide) rfl rfl ?_
  obtain ⟨n, h⟩ := h
  exact (b_Mod_takeApart_134 hd n _ _ _ h).less (e_sc (List.mem_of_getElem? (i := 1) rfl) (e_sc (List.mem_of_getElem? (i := 0) rfl) e_sn))
def w_Mod_takeApart_106 : Nat → Nat → Int32 → eM → (Int32 → eM → Prop) → Prop
  | 0, _, _, _, _ => False
  | n + 1, l0, l1, M, Q => e_ob M l0 12 ∧ ((gi M l0 19) ≤ l1 → w_Mod_takeApart_132 l0 M Q) ∧ (¬ (gi M l0 19) ≤ l1 → e_ob M l0 12 ∧ (¬ (gi M l0 82) = 0 → w_Mod_takeApart_132 l0 M Q) ∧ ((gi M l0 82) = 0 → e_ob M l0 12 ∧ w_Mod_readMethod l0 l1 M (fun (M18 : eM) => (fun l0 l1 M => w_Mod_takeApart_106 n l0 l1 M Q ) l0 (l1 + 1) M18)))
theorem b_Mod_takeApart_106 {d : Nat} {Q : Int32 → eM → Prop} (hd : 4 ≤ d) (n : Nat) : ∀ (l0 : Nat) (l1 : Int32) (M : eM), w_Mod_takeApart_106 n l0 l1 M Q → e_E 156 d 0 0 106 [(0, .ref l0), (1, .int l1)] [] M (e_QI Q) := by
  induction n with
  | zero => intro l0 l1 M h; exact False.elim h
  | succ n ih =>
    intro l0 l1 M h
    have hk106 := ih
    refine r_iload_n (kd156 rfl) rfl rfl ?_
    refine r_aload_n (kd156 rfl) rfl rfl ?_
    obtain ⟨g, h⟩ := h
    refine r_get0 (kd156 rfl) (by decide) rfl g rfl ?_
    refine r_icmp_ge (kd156 rfl) rfl (fun c => ?_) (fun c => ?_)
    · have h := h.1 c
      exact (b_Mod_takeApart_132 hd h).less (e_sc (List.mem_of_getElem? (i := 0) rfl) e_sn)
    · have h := h.2 c
      refine r_aload_n (kd156 rfl) rfl rfl ?_
      obtain ⟨g, h⟩ := h
      refine r_get3 (kd156 rfl) (by decide) rfl g rfl ?_
      refine r_if_ne (kd156 rfl) rfl (fun c => ?_) (fun c => ?_)
      · have h := h.1 c
        exact (b_Mod_takeApart_132 hd h).less (e_sc (List.mem_of_getElem? (i := 0) rfl) e_sn)
      · have h := h.2 c
        refine r_aload_n (kd156 rfl) rfl rfl ?_
        refine r_iload_n (kd156 rfl) rfl rfl ?_
        obtain ⟨g, h⟩ := h
        refine r_callVV (d' := d - 1) (by omega) (kd156 rfl) (by decide) rfl rfl rfl rfl (Nat.le_of_ble_eq_true rfl) rfl L151 (Nat.le_of_ble_eq_true rfl) (Nat.le_of_ble_eq_true rfl) g (Nat.zero_le _) (Nat.zero_le _) rfl rfl rfl (b_Mod_readMethod (by omega) h) (fun M1 h => ?_)
        refine r_iinc (kd156 rfl) rfl (y := 1) (by decide) L156 (by decide) rfl rfl ?_
        refine r_goto (kd156 rfl) ?_
        exact (hk106 _ _ _ h).less (e_sc (List.mem_of_getElem? (i := 1) rfl) (e_sc (List.mem_of_getElem? (i := 0) rfl) e_sn))
def w_Mod_takeApart_93 (l0 : Nat) (M : eM) (Q : Int32 → eM → Prop) : Prop := e_ob M l0 12 ∧ w_Mod_next l0 1 16 M (fun (v15 : Int32) (M14 : eM) => e_ob M14 l0 12 ∧ ∀ M16 : eM, M16 = e_si M14 l0 19 v15 → ∃ n17 : Nat, w_Mod_takeApart_106 n17 l0 0 M16 Q)
theorem b_Mod_takeApart_93 {d : Nat} {l0 : Nat} {M : eM} {Q : Int32 → eM → Prop} (hd : 4 ≤ d) (h : w_Mod_takeApart_93 l0 M Q ) : e_E 156 d 0 0 93 [(0, .ref l0)] [] M (e_QI Q) := by
  unfold w_Mod_takeApart_93 at h
  refine r_aload_n (kd156 rfl) rfl rfl ?_
  refine r_aload_n (kd156 rfl) rfl rfl ?_
  refine r_iconst (kd156 rfl) (y := 1) (by decide) rfl ?_
  refine r_bipush (kd156 rfl) (y := 16) (by decide) rfl ?_
  obtain ⟨g, h⟩ := h
  refine r_callVI (d' := d - 1) (by omega) (kd156 rfl) (by decide) rfl rfl rfl rfl (Nat.le_of_ble_eq_true rfl) rfl L147 (Nat.le_of_ble_eq_true rfl) (Nat.le_of_ble_eq_true rfl) g (Nat.zero_le _) (Nat.zero_le _) rfl rfl rfl (b_Mod_next (by omega) h) (fun x1 M1 h => ?_)
  obtain ⟨g, h⟩ := h
  have h := h _ rfl
  refine r_put0 (kd156 rfl) (by decide) rfl g rfl ?_
  refine r_iconst (kd156 rfl) (y := 0) (by decide) rfl ?_
  refine r_istore_n (kd156 rfl) L156 (by decide) rfl rfl ?_
  obtain ⟨n, h⟩ := h
  exact (b_Mod_takeApart_106 hd n _ _ _ h).less (e_sc (List.mem_of_getElem? (i := 1) rfl) (e_sc (List.mem_of_getElem? (i := 0) rfl) e_sn))
def w_Mod_takeApart_67 : Nat → Nat → Int32 → eM → (Int32 → eM → Prop) → Prop
  | 0, _, _, _, _ => False
  | n + 1, l0, l1, M, Q => e_ob M l0 12 ∧ ((gi M l0 15) ≤ l1 → w_Mod_takeApart_93 l0 M Q) ∧ (¬ (gi M l0 15) ≤ l1 → e_ob M l0 12 ∧ (¬ (gi M l0 82) = 0 → w_Mod_takeApart_93 l0 M Q) ∧ ((gi M l0 82) = 0 → e_ob M l0 12 ∧ w_Mod_readSelector l0 l1 M (fun (M13 : eM) => (fun l0 l1 M => w_Mod_takeApart_67 n l0 l1 M Q ) l0 (l1 + 1) M13)))
theorem b_Mod_takeApart_67 {d : Nat} {Q : Int32 → eM → Prop} (hd : 4 ≤ d) (n : Nat) : ∀ (l0 : Nat) (l1 : Int32) (M : eM), w_Mod_takeApart_67 n l0 l1 M Q → e_E 156 d 0 0 67 [(0, .ref l0), (1, .int l1)] [] M (e_QI Q) := by
  induction n with
  | zero => intro l0 l1 M h; exact False.elim h
  | succ n ih =>
    intro l0 l1 M h
    have hk67 := ih
    refine r_iload_n (kd156 rfl) rfl rfl ?_
    refine r_aload_n (kd156 rfl) rfl rfl ?_
    obtain ⟨g, h⟩ := h
    refine r_get0 (kd156 rfl) (by decide) rfl g rfl ?_
    refine r_icmp_ge (kd156 rfl) rfl (fun c => ?_) (fun c => ?_)
    · have h := h.1 c
      exact (b_Mod_takeApart_93 hd h).less (e_sc (List.mem_of_getElem? (i := 0) rfl) e_sn)
    · have h := h.2 c
      refine r_aload_n (kd156 rfl) rfl rfl ?_
      obtain ⟨g, h⟩ := h
      refine r_get3 (kd156 rfl) (by decide) rfl g rfl ?_
      refine r_if_ne (kd156 rfl) rfl (fun c => ?_) (fun c => ?_)
      · have h := h.1 c
        exact (b_Mod_takeApart_93 hd h).less (e_sc (List.mem_of_getElem? (i := 0) rfl) e_sn)
      · have h := h.2 c
        refine r_aload_n (kd156 rfl) rfl rfl ?_
        refine r_iload_n (kd156 rfl) rfl rfl ?_
        obtain ⟨g, h⟩ := h
        refine r_callVV (d' := d - 1) (by omega) (kd156 rfl) (by decide) rfl rfl rfl rfl (Nat.le_of_ble_eq_true rfl) rfl L150 (Nat.le_of_ble_eq_true rfl) (Nat.le_of_ble_eq_true rfl) g (Nat.zero_le _) (Nat.zero_le _) rfl rfl rfl (b_Mod_readSelector (by omega) h) (fun M1 h => ?_)
        refine r_iinc (kd156 rfl) rfl (y := 1) (by decide) L156 (by decide) rfl rfl ?_
        refine r_goto (kd156 rfl) ?_
        exact (hk67 _ _ _ h).less (e_sc (List.mem_of_getElem? (i := 1) rfl) (e_sc (List.mem_of_getElem? (i := 0) rfl) e_sn))
def w_Mod_takeApart_54 (l0 : Nat) (M : eM) (Q : Int32 → eM → Prop) : Prop := e_ob M l0 12 ∧ w_Mod_next l0 0 8 M (fun (v10 : Int32) (M9 : eM) => e_ob M9 l0 12 ∧ ∀ M11 : eM, M11 = e_si M9 l0 15 v10 → ∃ n12 : Nat, w_Mod_takeApart_67 n12 l0 0 M11 Q)
theorem b_Mod_takeApart_54 {d : Nat} {l0 : Nat} {M : eM} {Q : Int32 → eM → Prop} (hd : 4 ≤ d) (h : w_Mod_takeApart_54 l0 M Q ) : e_E 156 d 0 0 54 [(0, .ref l0)] [] M (e_QI Q) := by
  unfold w_Mod_takeApart_54 at h
  refine r_aload_n (kd156 rfl) rfl rfl ?_
  refine r_aload_n (kd156 rfl) rfl rfl ?_
  refine r_iconst (kd156 rfl) (y := 0) (by decide) rfl ?_
  refine r_bipush (kd156 rfl) (y := 8) (by decide) rfl ?_
  obtain ⟨g, h⟩ := h
  refine r_callVI (d' := d - 1) (by omega) (kd156 rfl) (by decide) rfl rfl rfl rfl (Nat.le_of_ble_eq_true rfl) rfl L147 (Nat.le_of_ble_eq_true rfl) (Nat.le_of_ble_eq_true rfl) g (Nat.zero_le _) (Nat.zero_le _) rfl rfl rfl (b_Mod_next (by omega) h) (fun x1 M1 h => ?_)
  obtain ⟨g, h⟩ := h
  have h := h _ rfl
  refine r_put0 (kd156 rfl) (by decide) rfl g rfl ?_
  refine r_iconst (kd156 rfl) (y := 0) (by decide) rfl ?_
  refine r_istore_n (kd156 rfl) L156 (by decide) rfl rfl ?_
  obtain ⟨n, h⟩ := h
  exact (b_Mod_takeApart_67 hd n _ _ _ h).less (e_sc (List.mem_of_getElem? (i := 1) rfl) (e_sc (List.mem_of_getElem? (i := 0) rfl) e_sn))
def w_Mod_takeApart_28 : Nat → Nat → Int32 → eM → (Int32 → eM → Prop) → Prop
  | 0, _, _, _, _ => False
  | n + 1, l0, l1, M, Q => e_ob M l0 12 ∧ ((gi M l0 11) ≤ l1 → w_Mod_takeApart_54 l0 M Q) ∧ (¬ (gi M l0 11) ≤ l1 → e_ob M l0 12 ∧ (¬ (gi M l0 82) = 0 → w_Mod_takeApart_54 l0 M Q) ∧ ((gi M l0 82) = 0 → e_ob M l0 12 ∧ w_Mod_readClass l0 l1 M (fun (M8 : eM) => (fun l0 l1 M => w_Mod_takeApart_28 n l0 l1 M Q ) l0 (l1 + 1) M8)))
theorem b_Mod_takeApart_28 {d : Nat} {Q : Int32 → eM → Prop} (hd : 4 ≤ d) (n : Nat) : ∀ (l0 : Nat) (l1 : Int32) (M : eM), w_Mod_takeApart_28 n l0 l1 M Q → e_E 156 d 0 0 28 [(0, .ref l0), (1, .int l1)] [] M (e_QI Q) := by
  induction n with
  | zero => intro l0 l1 M h; exact False.elim h
  | succ n ih =>
    intro l0 l1 M h
    have hk28 := ih
    refine r_iload_n (kd156 rfl) rfl rfl ?_
    refine r_aload_n (kd156 rfl) rfl rfl ?_
    obtain ⟨g, h⟩ := h
    refine r_get0 (kd156 rfl) (by decide) rfl g rfl ?_
    refine r_icmp_ge (kd156 rfl) rfl (fun c => ?_) (fun c => ?_)
    · have h := h.1 c
      exact (b_Mod_takeApart_54 hd h).less (e_sc (List.mem_of_getElem? (i := 0) rfl) e_sn)
    · have h := h.2 c
      refine r_aload_n (kd156 rfl) rfl rfl ?_
      obtain ⟨g, h⟩ := h
      refine r_get3 (kd156 rfl) (by decide) rfl g rfl ?_
      refine r_if_ne (kd156 rfl) rfl (fun c => ?_) (fun c => ?_)
      · have h := h.1 c
        exact (b_Mod_takeApart_54 hd h).less (e_sc (List.mem_of_getElem? (i := 0) rfl) e_sn)
      · have h := h.2 c
        refine r_aload_n (kd156 rfl) rfl rfl ?_
        refine r_iload_n (kd156 rfl) rfl rfl ?_
        obtain ⟨g, h⟩ := h
        refine r_callVV (d' := d - 1) (by omega) (kd156 rfl) (by decide) rfl rfl rfl rfl (Nat.le_of_ble_eq_true rfl) rfl L149 (Nat.le_of_ble_eq_true rfl) (Nat.le_of_ble_eq_true rfl) g (Nat.zero_le _) (Nat.zero_le _) rfl rfl rfl (b_Mod_readClass (by omega) h) (fun M1 h => ?_)
        refine r_iinc (kd156 rfl) rfl (y := 1) (by decide) L156 (by decide) rfl rfl ?_
        refine r_goto (kd156 rfl) ?_
        exact (hk28 _ _ _ h).less (e_sc (List.mem_of_getElem? (i := 1) rfl) (e_sc (List.mem_of_getElem? (i := 0) rfl) e_sn))
def w_Mod_takeApart (l0 : Nat) (M : eM) (Q : Int32 → eM → Prop) : Prop := e_ob M l0 12 ∧ ∀ M1 : eM, M1 = e_si M l0 81 0 → e_ob M1 l0 12 ∧ ((0 : Int32) = 0 ∨ (0 : Int32) = 1) ∧ ∀ M2 : eM, M2 = e_si M1 l0 82 (0 : Int32) → e_ob M2 l0 12 ∧ ∀ M3 : eM, M3 = e_si M2 l0 11 0 → e_ob M3 l0 12 ∧ w_Mod_next l0 0 8 M3 (fun (v5 : Int32) (M4 : eM) => e_ob M4 l0 12 ∧ ∀ M6 : eM, M6 = e_si M4 l0 11 v5 → ∃ n7 : Nat, w_Mod_takeApart_28 n7 l0 0 M6 Q)
theorem b_Mod_takeApart {d : Nat} {l0 : Nat} {M : eM} {Q : Int32 → eM → Prop} (hd : 4 ≤ d) (h : w_Mod_takeApart l0 M Q) : e_CI 156 d 0 0 [.ref l0] M Q := by
  unfold w_Mod_takeApart at h
  show e_E 156 d 0 0 0 [(0, .ref l0)] [] M (e_QI Q)
  refine r_aload_n (kd156 rfl) rfl rfl ?_
  refine r_iconst (kd156 rfl) (y := 0) (by decide) rfl ?_
  obtain ⟨g, h⟩ := h
  have h := h _ rfl
  refine r_put0 (kd156 rfl) (by decide) rfl g rfl ?_
  refine r_aload_n (kd156 rfl) rfl rfl ?_
  refine r_iconst (kd156 rfl) (y := 0) (by decide) rfl ?_
  obtain ⟨g, h⟩ := h
  obtain ⟨gb, h⟩ := h
  have h := h _ rfl
  refine r_put3 (kd156 rfl) (by decide) rfl g gb rfl ?_
  refine r_aload_n (kd156 rfl) rfl rfl ?_
  refine r_iconst (kd156 rfl) (y := 0) (by decide) rfl ?_
  obtain ⟨g, h⟩ := h
  have h := h _ rfl
  refine r_put0 (kd156 rfl) (by decide) rfl g rfl ?_
  refine r_aload_n (kd156 rfl) rfl rfl ?_
  refine r_aload_n (kd156 rfl) rfl rfl ?_
  refine r_iconst (kd156 rfl) (y := 0) (by decide) rfl ?_
  refine r_bipush (kd156 rfl) (y := 8) (by decide) rfl ?_
  obtain ⟨g, h⟩ := h
  refine r_callVI (d' := d - 1) (by omega) (kd156 rfl) (by decide) rfl rfl rfl rfl (Nat.le_of_ble_eq_true rfl) rfl L147 (Nat.le_of_ble_eq_true rfl) (Nat.le_of_ble_eq_true rfl) g (Nat.zero_le _) (Nat.zero_le _) rfl rfl rfl (b_Mod_next (by omega) h) (fun x1 M1 h => ?_)
  obtain ⟨g, h⟩ := h
  have h := h _ rfl
  refine r_put0 (kd156 rfl) (by decide) rfl g rfl ?_
  refine r_iconst (kd156 rfl) (y := 0) (by decide) rfl ?_
  refine r_istore_n (kd156 rfl) L156 (by decide) rfl rfl ?_
  obtain ⟨n, h⟩ := h
  exact (b_Mod_takeApart_28 hd n _ _ _ h).less (e_sc (List.mem_of_getElem? (i := 1) rfl) (e_sc (List.mem_of_getElem? (i := 0) rfl) e_sn))
/-- TierMillModel.opLong(I)I -/
theorem kd157 {pc : Nat} {q : eI} (h : e_d157.lookup pc = some q) : e_dec 157 pc = some q := h
theorem L157 : (e_m 157).2.2.1 = 1 := rfl
theorem R157 : (e_m 157).2.2.2.1 = (some .int) := rfl
def w_Mod_opLong_212 (M : eM) (Q : Int32 → eM → Prop) : Prop := Q (3 : Int32) M
theorem b_Mod_opLong_212 {d : Nat} {M : eM} {Q : Int32 → eM → Prop} (hd : 0 ≤ d) (h : w_Mod_opLong_212 M Q ) : e_E 157 d 0 0 212 [] [] M (e_QI Q) := by
  unfold w_Mod_opLong_212 at h
  refine r_iconst (kd157 rfl) (y := 3) (by decide) rfl ?_
  exact r_ireturn (kd157 rfl) R157 h
def w_Mod_opLong_214 (M : eM) (Q : Int32 → eM → Prop) : Prop := Q (2 : Int32) M
theorem b_Mod_opLong_214 {d : Nat} {M : eM} {Q : Int32 → eM → Prop} (hd : 0 ≤ d) (h : w_Mod_opLong_214 M Q ) : e_E 157 d 0 0 214 [] [] M (e_QI Q) := by
  unfold w_Mod_opLong_214 at h
  refine r_iconst (kd157 rfl) (y := 2) (by decide) rfl ?_
  exact r_ireturn (kd157 rfl) R157 h
def w_Mod_opLong_233 (s0 : Int32) (M : eM) (Q : Int32 → eM → Prop) : Prop := Q s0 M
theorem b_Mod_opLong_233 {d : Nat} {s0 : Int32} {M : eM} {Q : Int32 → eM → Prop} (hd : 0 ≤ d) (h : w_Mod_opLong_233 s0 M Q ) : e_E 157 d 0 0 233 [] [.int s0] M (e_QI Q) := by
  unfold w_Mod_opLong_233 at h
  exact r_ireturn (kd157 rfl) R157 h
def w_Mod_opLong_232 (M : eM) (Q : Int32 → eM → Prop) : Prop := w_Mod_opLong_233 1 M Q
theorem b_Mod_opLong_232 {d : Nat} {M : eM} {Q : Int32 → eM → Prop} (hd : 0 ≤ d) (h : w_Mod_opLong_232 M Q ) : e_E 157 d 0 0 232 [] [] M (e_QI Q) := by
  unfold w_Mod_opLong_232 at h
  refine r_iconst (kd157 rfl) (y := 1) (by decide) rfl ?_
  exact (b_Mod_opLong_233 hd h).less e_sn
def w_Mod_opLong_216 (l0 : Int32) (M : eM) (Q : Int32 → eM → Prop) : Prop := (l0 < 21 → w_Mod_opLong_232 M Q) ∧ (¬ l0 < 21 → (37 < l0 → w_Mod_opLong_232 M Q) ∧ (¬ 37 < l0 → w_Mod_opLong_233 2 M Q))
theorem b_Mod_opLong_216 {d : Nat} {l0 : Int32} {M : eM} {Q : Int32 → eM → Prop} (hd : 0 ≤ d) (h : w_Mod_opLong_216 l0 M Q ) : e_E 157 d 0 0 216 [(0, .int l0)] [] M (e_QI Q) := by
  unfold w_Mod_opLong_216 at h
  refine r_iload_n (kd157 rfl) rfl rfl ?_
  refine r_bipush (kd157 rfl) (y := 21) (by decide) rfl ?_
  refine r_icmp_lt (kd157 rfl) rfl (fun c => ?_) (fun c => ?_)
  · have h := h.1 c
    exact (b_Mod_opLong_232 hd h).less e_sn
  · have h := h.2 c
    refine r_iload_n (kd157 rfl) rfl rfl ?_
    refine r_bipush (kd157 rfl) (y := 37) (by decide) rfl ?_
    refine r_icmp_gt (kd157 rfl) rfl (fun c => ?_) (fun c => ?_)
    · have h := h.1 c
      exact (b_Mod_opLong_232 hd h).less e_sn
    · have h := h.2 c
      refine r_iconst (kd157 rfl) (y := 2) (by decide) rfl ?_
      refine r_goto (kd157 rfl) ?_
      exact (b_Mod_opLong_233 hd h).less e_sn
def w_Mod_opLong (l0 : Int32) (M : eM) (Q : Int32 → eM → Prop) : Prop := (l0 = 0 → w_Mod_opLong_214 M Q) ∧ (¬ l0 = 0 → (l0 = 1 → w_Mod_opLong_212 M Q) ∧ (¬ l0 = 1 → (l0 = 2 → w_Mod_opLong_216 l0 M Q) ∧ (¬ l0 = 2 → (l0 = 3 → w_Mod_opLong_214 M Q) ∧ (¬ l0 = 3 → (l0 = 4 → w_Mod_opLong_214 M Q) ∧ (¬ l0 = 4 → (l0 = 5 → w_Mod_opLong_216 l0 M Q) ∧ (¬ l0 = 5 → (l0 = 6 → w_Mod_opLong_216 l0 M Q) ∧ (¬ l0 = 6 → (l0 = 7 → w_Mod_opLong_216 l0 M Q) ∧ (¬ l0 = 7 → (l0 = 8 → w_Mod_opLong_216 l0 M Q) ∧ (¬ l0 = 8 → (l0 = 9 → w_Mod_opLong_216 l0 M Q) ∧ (¬ l0 = 9 → (l0 = 10 → w_Mod_opLong_216 l0 M Q) ∧ (¬ l0 = 10 → (l0 = 11 → w_Mod_opLong_216 l0 M Q) ∧ (¬ l0 = 11 → (l0 = 12 → w_Mod_opLong_216 l0 M Q) ∧ (¬ l0 = 12 → (l0 = 13 → w_Mod_opLong_216 l0 M Q) ∧ (¬ l0 = 13 → (l0 = 14 → w_Mod_opLong_216 l0 M Q) ∧ (¬ l0 = 14 → (l0 = 15 → w_Mod_opLong_216 l0 M Q) ∧ (¬ l0 = 15 → (l0 = 16 → w_Mod_opLong_216 l0 M Q) ∧ (¬ l0 = 16 → (l0 = 17 → w_Mod_opLong_216 l0 M Q) ∧ (¬ l0 = 17 → (l0 = 18 → w_Mod_opLong_216 l0 M Q) ∧ (¬ l0 = 18 → (l0 = 19 → w_Mod_opLong_216 l0 M Q) ∧ (¬ l0 = 19 → (l0 = 20 → w_Mod_opLong_212 M Q) ∧ (¬ l0 = 20 → (l0 = 21 → w_Mod_opLong_216 l0 M Q) ∧ (¬ l0 = 21 → (l0 = 22 → w_Mod_opLong_216 l0 M Q) ∧ (¬ l0 = 22 → (l0 = 23 → w_Mod_opLong_216 l0 M Q) ∧ (¬ l0 = 23 → (l0 = 24 → w_Mod_opLong_216 l0 M Q) ∧ (¬ l0 = 24 → (l0 = 25 → w_Mod_opLong_216 l0 M Q) ∧ (¬ l0 = 25 → (l0 = 26 → w_Mod_opLong_216 l0 M Q) ∧ (¬ l0 = 26 → (l0 = 27 → w_Mod_opLong_216 l0 M Q) ∧ (¬ l0 = 27 → (l0 = 28 → w_Mod_opLong_216 l0 M Q) ∧ (¬ l0 = 28 → (l0 = 29 → w_Mod_opLong_216 l0 M Q) ∧ (¬ l0 = 29 → (l0 = 30 → w_Mod_opLong_216 l0 M Q) ∧ (¬ l0 = 30 → (l0 = 31 → w_Mod_opLong_216 l0 M Q) ∧ (¬ l0 = 31 → (l0 = 32 → w_Mod_opLong_216 l0 M Q) ∧ (¬ l0 = 32 → (l0 = 33 → w_Mod_opLong_216 l0 M Q) ∧ (¬ l0 = 33 → (l0 = 34 → w_Mod_opLong_216 l0 M Q) ∧ (¬ l0 = 34 → (l0 = 35 → w_Mod_opLong_216 l0 M Q) ∧ (¬ l0 = 35 → (l0 = 36 → w_Mod_opLong_216 l0 M Q) ∧ (¬ l0 = 36 → (l0 = 37 → w_Mod_opLong_216 l0 M Q) ∧ (¬ l0 = 37 → (l0 = 38 → w_Mod_opLong_214 M Q) ∧ (¬ l0 = 38 → (l0 = 39 → w_Mod_opLong_212 M Q) ∧ (¬ l0 = 39 → (l0 = 40 → w_Mod_opLong_212 M Q) ∧ (¬ l0 = 40 → (l0 = 41 → w_Mod_opLong_216 l0 M Q) ∧ (¬ l0 = 41 → (l0 = 42 → w_Mod_opLong_216 l0 M Q) ∧ (¬ l0 = 42 → (l0 = 43 → w_Mod_opLong_216 l0 M Q) ∧ (¬ l0 = 43 → (l0 = 44 → w_Mod_opLong_216 l0 M Q) ∧ (¬ l0 = 44 → (l0 = 45 → w_Mod_opLong_214 M Q) ∧ (¬ l0 = 45 → (l0 = 46 → w_Mod_opLong_214 M Q) ∧ (¬ l0 = 46 → (l0 = 47 → w_Mod_opLong_214 M Q) ∧ (¬ l0 = 47 → (l0 = 48 → w_Mod_opLong_214 M Q) ∧ (¬ l0 = 48 → w_Mod_opLong_216 l0 M Q)))))))))))))))))))))))))))))))))))))))))))))))))
theorem b_Mod_opLong {d : Nat} {l0 : Int32} {M : eM} {Q : Int32 → eM → Prop} (hd : 0 ≤ d) (h : w_Mod_opLong l0 M Q) : e_CI 157 d 0 0 [.int l0] M Q := by
  unfold w_Mod_opLong at h
  show e_E 157 d 0 0 0 [(0, .int l0)] [] M (e_QI Q)
  refine r_iload_n (kd157 rfl) rfl rfl ?_
  refine r_tableswitch (kd157 rfl) (u := 216) (qs := [(0, 214), (1, 212), (2, 216), (3, 214), (4, 214), (5, 216), (6, 216), (7, 216), (8, 216), (9, 216), (10, 216), (11, 216), (12, 216), (13, 216), (14, 216), (15, 216), (16, 216), (17, 216), (18, 216), (19, 216), (20, 212), (21, 216), (22, 216), (23, 216), (24, 216), (25, 216), (26, 216), (27, 216), (28, 216), (29, 216), (30, 216), (31, 216), (32, 216), (33, 216), (34, 216), (35, 216), (36, 216), (37, 216), (38, 214), (39, 212), (40, 212), (41, 216), (42, 216), (43, 216), (44, 216), (45, 214), (46, 214), (47, 214), (48, 214)]) rfl rfl rfl (by decide) ?_
  refine ⟨fun c => ?_, fun c => ?_⟩
  · have h := h.1 c
    exact (b_Mod_opLong_214 hd h).less e_sn
  have h := h.2 c
  refine ⟨fun c => ?_, fun c => ?_⟩
  · have h := h.1 c
    exact (b_Mod_opLong_212 hd h).less e_sn
  have h := h.2 c
  refine ⟨fun c => ?_, fun c => ?_⟩
  · have h := h.1 c
    exact (b_Mod_opLong_216 hd h).less (e_sc (List.mem_of_getElem? (i := 0) rfl) e_sn)
  have h := h.2 c
  refine ⟨fun c => ?_, fun c => ?_⟩
  · have h := h.1 c
    exact (b_Mod_opLong_214 hd h).less e_sn
  have h := h.2 c
  refine ⟨fun c => ?_, fun c => ?_⟩
  · have h := h.1 c
    exact (b_Mod_opLong_214 hd h).less e_sn
  have h := h.2 c
  refine ⟨fun c => ?_, fun c => ?_⟩
  · have h := h.1 c
    exact (b_Mod_opLong_216 hd h).less (e_sc (List.mem_of_getElem? (i := 0) rfl) e_sn)
  have h := h.2 c
  refine ⟨fun c => ?_, fun c => ?_⟩
  · have h := h.1 c
    exact (b_Mod_opLong_216 hd h).less (e_sc (List.mem_of_getElem? (i := 0) rfl) e_sn)
  have h := h.2 c
  refine ⟨fun c => ?_, fun c => ?_⟩
  · have h := h.1 c
    exact (b_Mod_opLong_216 hd h).less (e_sc (List.mem_of_getElem? (i := 0) rfl) e_sn)
  have h := h.2 c
  refine ⟨fun c => ?_, fun c => ?_⟩
  · have h := h.1 c
    exact (b_Mod_opLong_216 hd h).less (e_sc (List.mem_of_getElem? (i := 0) rfl) e_sn)
  have h := h.2 c
  refine ⟨fun c => ?_, fun c => ?_⟩
  · have h := h.1 c
    exact (b_Mod_opLong_216 hd h).less (e_sc (List.mem_of_getElem? (i := 0) rfl) e_sn)
  have h := h.2 c
  refine ⟨fun c => ?_, fun c => ?_⟩
  · have h := h.1 c
    exact (b_Mod_opLong_216 hd h).less (e_sc (List.mem_of_getElem? (i := 0) rfl) e_sn)
  have h := h.2 c
  refine ⟨fun c => ?_, fun c => ?_⟩
  · have h := h.1 c
    exact (b_Mod_opLong_216 hd h).less (e_sc (List.mem_of_getElem? (i := 0) rfl) e_sn)
  have h := h.2 c
  refine ⟨fun c => ?_, fun c => ?_⟩
  · have h := h.1 c
    exact (b_Mod_opLong_216 hd h).less (e_sc (List.mem_of_getElem? (i := 0) rfl) e_sn)
  have h := h.2 c
  refine ⟨fun c => ?_, fun c => ?_⟩
  · have h := h.1 c
    exact (b_Mod_opLong_216 hd h).less (e_sc (List.mem_of_getElem? (i := 0) rfl) e_sn)
  have h := h.2 c
  refine ⟨fun c => ?_, fun c => ?_⟩
  · have h := h.1 c
    exact (b_Mod_opLong_216 hd h).less (e_sc (List.mem_of_getElem? (i := 0) rfl) e_sn)
  have h := h.2 c
  refine ⟨fun c => ?_, fun c => ?_⟩
  · have h := h.1 c
    exact (b_Mod_opLong_216 hd h).less (e_sc (List.mem_of_getElem? (i := 0) rfl) e_sn)
  have h := h.2 c
  refine ⟨fun c => ?_, fun c => ?_⟩
  · have h := h.1 c
    exact (b_Mod_opLong_216 hd h).less (e_sc (List.mem_of_getElem? (i := 0) rfl) e_sn)
  have h := h.2 c
  refine ⟨fun c => ?_, fun c => ?_⟩
  · have h := h.1 c
    exact (b_Mod_opLong_216 hd h).less (e_sc (List.mem_of_getElem? (i := 0) rfl) e_sn)
  have h := h.2 c
  refine ⟨fun c => ?_, fun c => ?_⟩
  · have h := h.1 c
    exact (b_Mod_opLong_216 hd h).less (e_sc (List.mem_of_getElem? (i := 0) rfl) e_sn)
  have h := h.2 c
  refine ⟨fun c => ?_, fun c => ?_⟩
  · have h := h.1 c
    exact (b_Mod_opLong_216 hd h).less (e_sc (List.mem_of_getElem? (i := 0) rfl) e_sn)
  have h := h.2 c
  refine ⟨fun c => ?_, fun c => ?_⟩
  · have h := h.1 c
    exact (b_Mod_opLong_212 hd h).less e_sn
  have h := h.2 c
  refine ⟨fun c => ?_, fun c => ?_⟩
  · have h := h.1 c
    exact (b_Mod_opLong_216 hd h).less (e_sc (List.mem_of_getElem? (i := 0) rfl) e_sn)
  have h := h.2 c
  refine ⟨fun c => ?_, fun c => ?_⟩
  · have h := h.1 c
    exact (b_Mod_opLong_216 hd h).less (e_sc (List.mem_of_getElem? (i := 0) rfl) e_sn)
  have h := h.2 c
  refine ⟨fun c => ?_, fun c => ?_⟩
  · have h := h.1 c
    exact (b_Mod_opLong_216 hd h).less (e_sc (List.mem_of_getElem? (i := 0) rfl) e_sn)
  have h := h.2 c
  refine ⟨fun c => ?_, fun c => ?_⟩
  · have h := h.1 c
    exact (b_Mod_opLong_216 hd h).less (e_sc (List.mem_of_getElem? (i := 0) rfl) e_sn)
  have h := h.2 c
  refine ⟨fun c => ?_, fun c => ?_⟩
  · have h := h.1 c
    exact (b_Mod_opLong_216 hd h).less (e_sc (List.mem_of_getElem? (i := 0) rfl) e_sn)
  have h := h.2 c
  refine ⟨fun c => ?_, fun c => ?_⟩
  · have h := h.1 c
    exact (b_Mod_opLong_216 hd h).less (e_sc (List.mem_of_getElem? (i := 0) rfl) e_sn)
  have h := h.2 c
  refine ⟨fun c => ?_, fun c => ?_⟩
  · have h := h.1 c
    exact (b_Mod_opLong_216 hd h).less (e_sc (List.mem_of_getElem? (i := 0) rfl) e_sn)
  have h := h.2 c
  refine ⟨fun c => ?_, fun c => ?_⟩
  · have h := h.1 c
    exact (b_Mod_opLong_216 hd h).less (e_sc (List.mem_of_getElem? (i := 0) rfl) e_sn)
  have h := h.2 c
  refine ⟨fun c => ?_, fun c => ?_⟩
  · have h := h.1 c
    exact (b_Mod_opLong_216 hd h).less (e_sc (List.mem_of_getElem? (i := 0) rfl) e_sn)
  have h := h.2 c
  refine ⟨fun c => ?_, fun c => ?_⟩
  · have h := h.1 c
    exact (b_Mod_opLong_216 hd h).less (e_sc (List.mem_of_getElem? (i := 0) rfl) e_sn)
  have h := h.2 c
  refine ⟨fun c => ?_, fun c => ?_⟩
  · have h := h.1 c
    exact (b_Mod_opLong_216 hd h).less (e_sc (List.mem_of_getElem? (i := 0) rfl) e_sn)
  have h := h.2 c
  refine ⟨fun c => ?_, fun c => ?_⟩
  · have h := h.1 c
    exact (b_Mod_opLong_216 hd h).less (e_sc (List.mem_of_getElem? (i := 0) rfl) e_sn)
  have h := h.2 c
  refine ⟨fun c => ?_, fun c => ?_⟩
  · have h := h.1 c
    exact (b_Mod_opLong_216 hd h).less (e_sc (List.mem_of_getElem? (i := 0) rfl) e_sn)
  have h := h.2 c
  refine ⟨fun c => ?_, fun c => ?_⟩
  · have h := h.1 c
    exact (b_Mod_opLong_216 hd h).less (e_sc (List.mem_of_getElem? (i := 0) rfl) e_sn)
  have h := h.2 c
  refine ⟨fun c => ?_, fun c => ?_⟩
  · have h := h.1 c
    exact (b_Mod_opLong_216 hd h).less (e_sc (List.mem_of_getElem? (i := 0) rfl) e_sn)
  have h := h.2 c
  refine ⟨fun c => ?_, fun c => ?_⟩
  · have h := h.1 c
    exact (b_Mod_opLong_216 hd h).less (e_sc (List.mem_of_getElem? (i := 0) rfl) e_sn)
  have h := h.2 c
  refine ⟨fun c => ?_, fun c => ?_⟩
  · have h := h.1 c
    exact (b_Mod_opLong_216 hd h).less (e_sc (List.mem_of_getElem? (i := 0) rfl) e_sn)
  have h := h.2 c
  refine ⟨fun c => ?_, fun c => ?_⟩
  · have h := h.1 c
    exact (b_Mod_opLong_214 hd h).less e_sn
  have h := h.2 c
  refine ⟨fun c => ?_, fun c => ?_⟩
  · have h := h.1 c
    exact (b_Mod_opLong_212 hd h).less e_sn
  have h := h.2 c
  refine ⟨fun c => ?_, fun c => ?_⟩
  · have h := h.1 c
    exact (b_Mod_opLong_212 hd h).less e_sn
  have h := h.2 c
  refine ⟨fun c => ?_, fun c => ?_⟩
  · have h := h.1 c
    exact (b_Mod_opLong_216 hd h).less (e_sc (List.mem_of_getElem? (i := 0) rfl) e_sn)
  have h := h.2 c
  refine ⟨fun c => ?_, fun c => ?_⟩
  · have h := h.1 c
    exact (b_Mod_opLong_216 hd h).less (e_sc (List.mem_of_getElem? (i := 0) rfl) e_sn)
  have h := h.2 c
  refine ⟨fun c => ?_, fun c => ?_⟩
  · have h := h.1 c
    exact (b_Mod_opLong_216 hd h).less (e_sc (List.mem_of_getElem? (i := 0) rfl) e_sn)
  have h := h.2 c
  refine ⟨fun c => ?_, fun c => ?_⟩
  · have h := h.1 c
    exact (b_Mod_opLong_216 hd h).less (e_sc (List.mem_of_getElem? (i := 0) rfl) e_sn)
  have h := h.2 c
  refine ⟨fun c => ?_, fun c => ?_⟩
  · have h := h.1 c
    exact (b_Mod_opLong_214 hd h).less e_sn
  have h := h.2 c
  refine ⟨fun c => ?_, fun c => ?_⟩
  · have h := h.1 c
    exact (b_Mod_opLong_214 hd h).less e_sn
  have h := h.2 c
  refine ⟨fun c => ?_, fun c => ?_⟩
  · have h := h.1 c
    exact (b_Mod_opLong_214 hd h).less e_sn
  have h := h.2 c
  refine ⟨fun c => ?_, fun c => ?_⟩
  · have h := h.1 c
    exact (b_Mod_opLong_214 hd h).less e_sn
  have h := h.2 c
  show e_E 157 _ _ _ 216 _ _ _ _
  exact (b_Mod_opLong_216 hd h).less (e_sc (List.mem_of_getElem? (i := 0) rfl) e_sn)
/-- TierMillModel.byteAt(II)I -/
theorem kd158 {pc : Nat} {q : eI} (h : e_d158.lookup pc = some q) : e_dec 158 pc = some q := h
theorem L158 : (e_m 158).2.2.1 = 3 := rfl
theorem R158 : (e_m 158).2.2.2.1 = (some .int) := rfl
def w_Mod_byteAt (l0 : Nat) (l1 : Int32) (l2 : Int32) (M : eM) (Q : Int32 → eM → Prop) : Prop := e_ob M l0 12 ∧ e_ai M (gr M l0 26) ((120 * l1) + l2) ∧ Q (gi M (gr M l0 26) ((120 * l1) + l2).toNatClampNeg) M
theorem b_Mod_byteAt {d : Nat} {l0 : Nat} {l1 : Int32} {l2 : Int32} {M : eM} {Q : Int32 → eM → Prop} (hd : 0 ≤ d) (h : w_Mod_byteAt l0 l1 l2 M Q) : e_CI 158 d 0 0 [.ref l0, .int l1, .int l2] M Q := by
  unfold w_Mod_byteAt at h
  show e_E 158 d 0 0 0 [(0, .ref l0), (1, .int l1), (2, .int l2)] [] M (e_QI Q)
  refine r_aload_n (kd158 rfl) rfl rfl ?_
  obtain ⟨g, h⟩ := h
  refine r_get2 (kd158 rfl) (by decide) rfl g rfl ?_
  refine r_bipush (kd158 rfl) (y := 120) (by decide) rfl ?_
  refine r_iload_n (kd158 rfl) rfl rfl ?_
  refine r_imul (kd158 rfl) rfl ?_
  refine r_iload_n (kd158 rfl) rfl rfl ?_
  refine r_iadd (kd158 rfl) rfl ?_
  obtain ⟨g, h⟩ := h
  refine r_iaload (kd158 rfl) g rfl ?_
  exact r_ireturn (kd158 rfl) R158 h
/-- TierMillModel.longOf(II)I -/
theorem kd159 {pc : Nat} {q : eI} (h : e_d159.lookup pc = some q) : e_dec 159 pc = some q := h
theorem L159 : (e_m 159).2.2.1 = 5 := rfl
theorem R159 : (e_m 159).2.2.2.1 = (some .int) := rfl
def w_Mod_longOf_31 (M : eM) (Q : Int32 → eM → Prop) : Prop := Q ((-1) : Int32) M
theorem b_Mod_longOf_31 {d : Nat} {M : eM} {Q : Int32 → eM → Prop} (hd : 1 ≤ d) (h : w_Mod_longOf_31 M Q ) : e_E 159 d 0 0 31 [] [] M (e_QI Q) := by
  unfold w_Mod_longOf_31 at h
  refine r_iconst (kd159 rfl) (y := (-1)) (by decide) rfl ?_
  exact r_ireturn (kd159 rfl) R159 h
def w_Mod_longOf_77 (s0 : Int32) (M : eM) (Q : Int32 → eM → Prop) : Prop := Q s0 M
theorem b_Mod_longOf_77 {d : Nat} {s0 : Int32} {M : eM} {Q : Int32 → eM → Prop} (hd : 1 ≤ d) (h : w_Mod_longOf_77 s0 M Q ) : e_E 159 d 0 0 77 [] [.int s0] M (e_QI Q) := by
  unfold w_Mod_longOf_77 at h
  exact r_ireturn (kd159 rfl) R159 h
def w_Mod_longOf_56 (l0 : Nat) (l1 : Int32) (l2 : Int32) (s0 : Int32) (M : eM) (Q : Int32 → eM → Prop) : Prop := e_ob M l0 12 ∧ e_ai M (gr M l0 25) l1 ∧ ((l2 + s0) ≤ (gi M (gr M l0 25) l1.toNatClampNeg) → w_Mod_longOf_77 s0 M Q) ∧ (¬ (l2 + s0) ≤ (gi M (gr M l0 25) l1.toNatClampNeg) → w_Mod_longOf_77 (-1) M Q)
theorem b_Mod_longOf_56 {d : Nat} {l0 : Nat} {l1 : Int32} {l2 : Int32} {s0 : Int32} {M : eM} {Q : Int32 → eM → Prop} (hd : 1 ≤ d) (h : w_Mod_longOf_56 l0 l1 l2 s0 M Q ) : e_E 159 d 0 0 56 [(0, .ref l0), (1, .int l1), (2, .int l2)] [.int s0] M (e_QI Q) := by
  unfold w_Mod_longOf_56 at h
  refine r_istore (kd159 rfl) L159 (by decide) rfl rfl ?_
  refine r_iload_n (kd159 rfl) rfl rfl ?_
  refine r_iload (kd159 rfl) rfl rfl ?_
  refine r_iadd (kd159 rfl) rfl ?_
  refine r_aload_n (kd159 rfl) rfl rfl ?_
  obtain ⟨g, h⟩ := h
  refine r_get2 (kd159 rfl) (by decide) rfl g rfl ?_
  refine r_iload_n (kd159 rfl) rfl rfl ?_
  obtain ⟨g, h⟩ := h
  refine r_iaload (kd159 rfl) g rfl ?_
  refine r_icmp_le (kd159 rfl) rfl (fun c => ?_) (fun c => ?_)
  · have h := h.1 c
    refine r_iload (kd159 rfl) rfl rfl ?_
    exact (b_Mod_longOf_77 hd h).less e_sn
  · have h := h.2 c
    refine r_iconst (kd159 rfl) (y := (-1)) (by decide) rfl ?_
    refine r_goto (kd159 rfl) ?_
    exact (b_Mod_longOf_77 hd h).less e_sn
def w_Mod_longOf_33 (l0 : Nat) (l1 : Int32) (l2 : Int32) (l3 : Int32) (M : eM) (Q : Int32 → eM → Prop) : Prop := (¬ l3 = 53 → w_Mod_opLong l3 M (fun (v4 : Int32) (M3 : eM) => w_Mod_longOf_56 l0 l1 l2 v4 M3 Q)) ∧ (l3 = 53 → e_ob M l0 12 ∧ w_Mod_byteAt l0 l1 (l2 + 1) M (fun (v6 : Int32) (M5 : eM) => w_Mod_longOf_56 l0 l1 l2 (3 + v6) M5 Q))
theorem b_Mod_longOf_33 {d : Nat} {l0 : Nat} {l1 : Int32} {l2 : Int32} {l3 : Int32} {M : eM} {Q : Int32 → eM → Prop} (hd : 1 ≤ d) (h : w_Mod_longOf_33 l0 l1 l2 l3 M Q ) : e_E 159 d 0 0 33 [(0, .ref l0), (1, .int l1), (2, .int l2), (3, .int l3)] [] M (e_QI Q) := by
  unfold w_Mod_longOf_33 at h
  refine r_iload_n (kd159 rfl) rfl rfl ?_
  refine r_bipush (kd159 rfl) (y := 53) (by decide) rfl ?_
  refine r_icmp_ne (kd159 rfl) rfl (fun c => ?_) (fun c => ?_)
  · have h := h.1 c
    refine r_iload_n (kd159 rfl) rfl rfl ?_
    refine r_callSI (d' := d - 1) (by omega) (kd159 rfl) (by decide) rfl rfl rfl rfl (Nat.le_of_ble_eq_true rfl) rfl L157 (Nat.le_of_ble_eq_true rfl) (Nat.le_of_ble_eq_true rfl) (Nat.zero_le _) (Nat.zero_le _) rfl rfl rfl (b_Mod_opLong (by omega) h) (fun x1 M1 h => ?_)
    exact (b_Mod_longOf_56 hd h).less (e_sc (List.mem_of_getElem? (i := 0) rfl) (e_sc (List.mem_of_getElem? (i := 1) rfl) (e_sc (List.mem_of_getElem? (i := 2) rfl) e_sn)))
  · have h := h.2 c
    refine r_iconst (kd159 rfl) (y := 3) (by decide) rfl ?_
    refine r_aload_n (kd159 rfl) rfl rfl ?_
    refine r_iload_n (kd159 rfl) rfl rfl ?_
    refine r_iload_n (kd159 rfl) rfl rfl ?_
    refine r_iconst (kd159 rfl) (y := 1) (by decide) rfl ?_
    refine r_iadd (kd159 rfl) rfl ?_
    obtain ⟨g, h⟩ := h
    refine r_callVI (d' := d - 1) (by omega) (kd159 rfl) (by decide) rfl rfl rfl rfl (Nat.le_of_ble_eq_true rfl) rfl L158 (Nat.le_of_ble_eq_true rfl) (Nat.le_of_ble_eq_true rfl) g (Nat.zero_le _) (Nat.zero_le _) rfl rfl rfl (b_Mod_byteAt (by omega) h) (fun x1 M1 h => ?_)
    refine r_iadd (kd159 rfl) rfl ?_
    refine r_goto (kd159 rfl) ?_
    exact (b_Mod_longOf_56 hd h).less (e_sc (List.mem_of_getElem? (i := 0) rfl) (e_sc (List.mem_of_getElem? (i := 1) rfl) (e_sc (List.mem_of_getElem? (i := 2) rfl) e_sn)))
def w_Mod_longOf (l0 : Nat) (l1 : Int32) (l2 : Int32) (M : eM) (Q : Int32 → eM → Prop) : Prop := e_ob M l0 12 ∧ w_Mod_byteAt l0 l1 l2 M (fun (v2 : Int32) (M1 : eM) => (53 < v2 → w_Mod_longOf_31 M1 Q) ∧ (¬ 53 < v2 → (¬ v2 = 53 → w_Mod_longOf_33 l0 l1 l2 v2 M1 Q) ∧ (v2 = 53 → e_ob M1 l0 12 ∧ e_ai M1 (gr M1 l0 25) l1 ∧ ((l2 + 1) < (gi M1 (gr M1 l0 25) l1.toNatClampNeg) → w_Mod_longOf_33 l0 l1 l2 v2 M1 Q) ∧ (¬ (l2 + 1) < (gi M1 (gr M1 l0 25) l1.toNatClampNeg) → w_Mod_longOf_31 M1 Q))))
theorem b_Mod_longOf {d : Nat} {l0 : Nat} {l1 : Int32} {l2 : Int32} {M : eM} {Q : Int32 → eM → Prop} (hd : 1 ≤ d) (h : w_Mod_longOf l0 l1 l2 M Q) : e_CI 159 d 0 0 [.ref l0, .int l1, .int l2] M Q := by
  unfold w_Mod_longOf at h
  show e_E 159 d 0 0 0 [(0, .ref l0), (1, .int l1), (2, .int l2)] [] M (e_QI Q)
  refine r_aload_n (kd159 rfl) rfl rfl ?_
  refine r_iload_n (kd159 rfl) rfl rfl ?_
  refine r_iload_n (kd159 rfl) rfl rfl ?_
  obtain ⟨g, h⟩ := h
  refine r_callVI (d' := d - 1) (by omega) (kd159 rfl) (by decide) rfl rfl rfl rfl (Nat.le_of_ble_eq_true rfl) rfl L158 (Nat.le_of_ble_eq_true rfl) (Nat.le_of_ble_eq_true rfl) g (Nat.zero_le _) (Nat.zero_le _) rfl rfl rfl (b_Mod_byteAt (by omega) h) (fun x1 M1 h => ?_)
  refine r_istore_n (kd159 rfl) L159 (by decide) rfl rfl ?_
  refine r_iload_n (kd159 rfl) rfl rfl ?_
  refine r_bipush (kd159 rfl) (y := 53) (by decide) rfl ?_
  refine r_icmp_gt (kd159 rfl) rfl (fun c => ?_) (fun c => ?_)
  · have h := h.1 c
    exact (b_Mod_longOf_31 hd h).less e_sn
  · have h := h.2 c
    refine r_iload_n (kd159 rfl) rfl rfl ?_
    refine r_bipush (kd159 rfl) (y := 53) (by decide) rfl ?_
    refine r_icmp_ne (kd159 rfl) rfl (fun c => ?_) (fun c => ?_)
    · have h := h.1 c
      exact (b_Mod_longOf_33 hd h).less (e_sc (List.mem_of_getElem? (i := 1) rfl) (e_sc (List.mem_of_getElem? (i := 2) rfl) (e_sc (List.mem_of_getElem? (i := 3) rfl) (e_sc (List.mem_of_getElem? (i := 0) rfl) e_sn))))
    · have h := h.2 c
      refine r_iload_n (kd159 rfl) rfl rfl ?_
      refine r_iconst (kd159 rfl) (y := 1) (by decide) rfl ?_
      refine r_iadd (kd159 rfl) rfl ?_
      refine r_aload_n (kd159 rfl) rfl rfl ?_
      obtain ⟨g, h⟩ := h
      refine r_get2 (kd159 rfl) (by decide) rfl g rfl ?_
      refine r_iload_n (kd159 rfl) rfl rfl ?_
      obtain ⟨g, h⟩ := h
      refine r_iaload (kd159 rfl) g rfl ?_
      refine r_icmp_lt (kd159 rfl) rfl (fun c => ?_) (fun c => ?_)
      · have h := h.1 c
        exact (b_Mod_longOf_33 hd h).less (e_sc (List.mem_of_getElem? (i := 1) rfl) (e_sc (List.mem_of_getElem? (i := 2) rfl) (e_sc (List.mem_of_getElem? (i := 3) rfl) (e_sc (List.mem_of_getElem? (i := 0) rfl) e_sn))))
      · have h := h.2 c
        exact (b_Mod_longOf_31 hd h).less e_sn
/-- TierMillModel.findBegins(I)V -/
theorem kd160 {pc : Nat} {q : eI} (h : e_d160.lookup pc = some q) : e_dec 160 pc = some q := h
theorem L160 : (e_m 160).2.2.1 = 4 := rfl
theorem R160 : (e_m 160).2.2.2.1 = none := rfl
def w_Mod_findBegins_73 (l0 : Nat) (l1 : Int32) (s0 : Int32) (M : eM) (Q : eM → Prop) (k28 : Nat → Int32 → Int32 → eM → Prop) : Prop := k28 l0 l1 s0 M
theorem b_Mod_findBegins_73 {d : Nat} {l0 : Nat} {l1 : Int32} {s0 : Int32} {M : eM} {Q : eM → Prop} {k28 : Nat → Int32 → Int32 → eM → Prop} (hd : 2 ≤ d) (hk28 : ∀ (l0 : Nat) (l1 : Int32) (l2 : Int32) (M : eM), k28 l0 l1 l2 M → e_E 160 d 0 0 28 [(0, .ref l0), (1, .int l1), (2, .int l2)] [] M (e_QV Q)) (h : w_Mod_findBegins_73 l0 l1 s0 M Q k28) : e_E 160 d 0 0 73 [(0, .ref l0), (1, .int l1)] [.int s0] M (e_QV Q) := by
  unfold w_Mod_findBegins_73 at h
  refine r_istore_n (kd160 rfl) L160 (by decide) rfl rfl ?_
  refine r_goto (kd160 rfl) ?_
  exact (hk28 _ _ _ _ h).less (e_sc (List.mem_of_getElem? (i := 1) rfl) (e_sc (List.mem_of_getElem? (i := 2) rfl) (e_sc (List.mem_of_getElem? (i := 0) rfl) e_sn)))
def w_Mod_findBegins_77 (M : eM) (Q : eM → Prop) : Prop := Q M
theorem b_Mod_findBegins_77 {d : Nat} {M : eM} {Q : eM → Prop} (hd : 2 ≤ d) (h : w_Mod_findBegins_77 M Q ) : e_E 160 d 0 0 77 [] [] M (e_QV Q) := by
  unfold w_Mod_findBegins_77 at h
  exact r_return (kd160 rfl) R160 h
def w_Mod_findBegins_28 : Nat → Nat → Int32 → Int32 → eM → (eM → Prop) → Prop
  | 0, _, _, _, _, _ => False
  | n + 1, l0, l1, l2, M, Q => (l2 < 0 → w_Mod_findBegins_77  M Q) ∧ (¬ l2 < 0 → e_ob M l0 12 ∧ e_ai M (gr M l0 25) l1 ∧ ((gi M (gr M l0 25) l1.toNatClampNeg) ≤ l2 → w_Mod_findBegins_77  M Q) ∧ (¬ (gi M (gr M l0 25) l1.toNatClampNeg) ≤ l2 → e_ob M l0 12 ∧ e_ar M (gr M l0 27) 22 ((120 * l1) + l2) ∧ ∀ M4 : eM, M4 = e_si M (gr M l0 27) ((120 * l1) + l2).toNatClampNeg (vp_nar .boolean 1) → e_ob M4 l0 12 ∧ w_Mod_longOf l0 l1 l2 M4 (fun (v6 : Int32) (M5 : eM) => (¬ v6 = (-1) → w_Mod_findBegins_73 l0 l1 (l2 + v6) M5 Q (fun l0 l1 l2 M => w_Mod_findBegins_28 n l0 l1 l2 M Q )) ∧ (v6 = (-1) → w_Mod_findBegins_73 l0 l1 (-1) M5 Q (fun l0 l1 l2 M => w_Mod_findBegins_28 n l0 l1 l2 M Q )))))
theorem b_Mod_findBegins_28 {d : Nat} {Q : eM → Prop} (hd : 2 ≤ d) (n : Nat) : ∀ (l0 : Nat) (l1 : Int32) (l2 : Int32) (M : eM), w_Mod_findBegins_28 n l0 l1 l2 M Q → e_E 160 d 0 0 28 [(0, .ref l0), (1, .int l1), (2, .int l2)] [] M (e_QV Q) := by
  induction n with
  | zero => intro l0 l1 l2 M h; exact False.elim h
  | succ n ih =>
    intro l0 l1 l2 M h
    have hk28 := ih
    refine r_iload_n (kd160 rfl) rfl rfl ?_
    refine r_if_lt (kd160 rfl) rfl (fun c => ?_) (fun c => ?_)
    · have h := h.1 c
      exact (b_Mod_findBegins_77 hd h).less e_sn
    · have h := h.2 c
      refine r_iload_n (kd160 rfl) rfl rfl ?_
      refine r_aload_n (kd160 rfl) rfl rfl ?_
      obtain ⟨g, h⟩ := h
      refine r_get2 (kd160 rfl) (by decide) rfl g rfl ?_
      refine r_iload_n (kd160 rfl) rfl rfl ?_
      obtain ⟨g, h⟩ := h
      refine r_iaload (kd160 rfl) g rfl ?_
      refine r_icmp_ge (kd160 rfl) rfl (fun c => ?_) (fun c => ?_)
      · have h := h.1 c
        exact (b_Mod_findBegins_77 hd h).less e_sn
      · have h := h.2 c
        refine r_aload_n (kd160 rfl) rfl rfl ?_
        obtain ⟨g, h⟩ := h
        refine r_get2 (kd160 rfl) (by decide) rfl g rfl ?_
        refine r_bipush (kd160 rfl) (y := 120) (by decide) rfl ?_
        refine r_iload_n (kd160 rfl) rfl rfl ?_
        refine r_imul (kd160 rfl) rfl ?_
        refine r_iload_n (kd160 rfl) rfl rfl ?_
        refine r_iadd (kd160 rfl) rfl ?_
        refine r_iconst (kd160 rfl) (y := 1) (by decide) rfl ?_
        obtain ⟨g, h⟩ := h
        have h := h _ rfl
        refine r_bastore (kd160 rfl) g rfl ?_
        refine r_aload_n (kd160 rfl) rfl rfl ?_
        refine r_iload_n (kd160 rfl) rfl rfl ?_
        refine r_iload_n (kd160 rfl) rfl rfl ?_
        obtain ⟨g, h⟩ := h
        refine r_callVI (d' := d - 1) (by omega) (kd160 rfl) (by decide) rfl rfl rfl rfl (Nat.le_of_ble_eq_true rfl) rfl L159 (Nat.le_of_ble_eq_true rfl) (Nat.le_of_ble_eq_true rfl) g (Nat.zero_le _) (Nat.zero_le _) rfl rfl rfl (b_Mod_longOf (by omega) h) (fun x1 M1 h => ?_)
        refine r_istore_n (kd160 rfl) L160 (by decide) rfl rfl ?_
        refine r_iload_n (kd160 rfl) rfl rfl ?_
        refine r_iconst (kd160 rfl) (y := (-1)) (by decide) rfl ?_
        refine r_icmp_ne (kd160 rfl) rfl (fun c => ?_) (fun c => ?_)
        · have h := h.1 c
          refine r_iload_n (kd160 rfl) rfl rfl ?_
          refine r_iload_n (kd160 rfl) rfl rfl ?_
          refine r_iadd (kd160 rfl) rfl ?_
          exact (b_Mod_findBegins_73 hd hk28 h).less (e_sc (List.mem_of_getElem? (i := 1) rfl) (e_sc (List.mem_of_getElem? (i := 2) rfl) e_sn))
        · have h := h.2 c
          refine r_iconst (kd160 rfl) (y := (-1)) (by decide) rfl ?_
          refine r_goto (kd160 rfl) ?_
          exact (b_Mod_findBegins_73 hd hk28 h).less (e_sc (List.mem_of_getElem? (i := 1) rfl) (e_sc (List.mem_of_getElem? (i := 2) rfl) e_sn))
def w_Mod_findBegins_2 : Nat → Nat → Int32 → Int32 → eM → (eM → Prop) → Prop
  | 0, _, _, _, _, _ => False
  | n + 1, l0, l1, l2, M, Q => (120 ≤ l2 → ∃ n2 : Nat, w_Mod_findBegins_28 n2 l0 l1 0 M Q) ∧ (¬ 120 ≤ l2 → e_ob M l0 12 ∧ e_ar M (gr M l0 27) 22 ((120 * l1) + l2) ∧ ∀ M3 : eM, M3 = e_si M (gr M l0 27) ((120 * l1) + l2).toNatClampNeg (vp_nar .boolean 0) → (fun l0 l1 l2 M => w_Mod_findBegins_2 n l0 l1 l2 M Q ) l0 l1 (l2 + 1) M3)
theorem b_Mod_findBegins_2 {d : Nat} {Q : eM → Prop} (hd : 2 ≤ d) (n : Nat) : ∀ (l0 : Nat) (l1 : Int32) (l2 : Int32) (M : eM), w_Mod_findBegins_2 n l0 l1 l2 M Q → e_E 160 d 0 0 2 [(0, .ref l0), (1, .int l1), (2, .int l2)] [] M (e_QV Q) := by
  induction n with
  | zero => intro l0 l1 l2 M h; exact False.elim h
  | succ n ih =>
    intro l0 l1 l2 M h
    have hk2 := ih
    refine r_iload_n (kd160 rfl) rfl rfl ?_
    refine r_bipush (kd160 rfl) (y := 120) (by decide) rfl ?_
    refine r_icmp_ge (kd160 rfl) rfl (fun c => ?_) (fun c => ?_)
    · have h := h.1 c
      refine r_iconst (kd160 rfl) (y := 0) (by decide) rfl ?_
      refine r_istore_n (kd160 rfl) L160 (by decide) rfl rfl ?_
      obtain ⟨n, h⟩ := h
      exact (b_Mod_findBegins_28 hd n _ _ _ _ h).less (e_sc (List.mem_of_getElem? (i := 1) rfl) (e_sc (List.mem_of_getElem? (i := 2) rfl) (e_sc (List.mem_of_getElem? (i := 0) rfl) e_sn)))
    · have h := h.2 c
      refine r_aload_n (kd160 rfl) rfl rfl ?_
      obtain ⟨g, h⟩ := h
      refine r_get2 (kd160 rfl) (by decide) rfl g rfl ?_
      refine r_bipush (kd160 rfl) (y := 120) (by decide) rfl ?_
      refine r_iload_n (kd160 rfl) rfl rfl ?_
      refine r_imul (kd160 rfl) rfl ?_
      refine r_iload_n (kd160 rfl) rfl rfl ?_
      refine r_iadd (kd160 rfl) rfl ?_
      refine r_iconst (kd160 rfl) (y := 0) (by decide) rfl ?_
      obtain ⟨g, h⟩ := h
      have h := h _ rfl
      refine r_bastore (kd160 rfl) g rfl ?_
      refine r_iinc (kd160 rfl) rfl (y := 1) (by decide) L160 (by decide) rfl rfl ?_
      refine r_goto (kd160 rfl) ?_
      exact (hk2 _ _ _ _ h).less (e_sc (List.mem_of_getElem? (i := 1) rfl) (e_sc (List.mem_of_getElem? (i := 2) rfl) (e_sc (List.mem_of_getElem? (i := 0) rfl) e_sn)))
def w_Mod_findBegins (l0 : Nat) (l1 : Int32) (M : eM) (Q : eM → Prop) : Prop := ∃ n1 : Nat, w_Mod_findBegins_2 n1 l0 l1 0 M Q
theorem b_Mod_findBegins {d : Nat} {l0 : Nat} {l1 : Int32} {M : eM} {Q : eM → Prop} (hd : 2 ≤ d) (h : w_Mod_findBegins l0 l1 M Q) : e_CV 160 d 0 0 [.ref l0, .int l1] M Q := by
  unfold w_Mod_findBegins at h
  show e_E 160 d 0 0 0 [(0, .ref l0), (1, .int l1)] [] M (e_QV Q)
  refine r_iconst (kd160 rfl) (y := 0) (by decide) rfl ?_
  refine r_istore_n (kd160 rfl) L160 (by decide) rfl rfl ?_
  obtain ⟨n, h⟩ := h
  exact (b_Mod_findBegins_2 hd n _ _ _ _ h).less (e_sc (List.mem_of_getElem? (i := 1) rfl) (e_sc (List.mem_of_getElem? (i := 2) rfl) (e_sc (List.mem_of_getElem? (i := 0) rfl) e_sn)))
/-- TierMillModel.isPlace(II)Z -/
theorem kd161 {pc : Nat} {q : eI} (h : e_d161.lookup pc = some q) : e_dec 161 pc = some q := h
theorem L161 : (e_m 161).2.2.1 = 3 := rfl
theorem R161 : (e_m 161).2.2.2.1 = (some .boolean) := rfl
def w_Mod_isPlace_29 (s0 : Int32) (M : eM) (Q : Int32 → eM → Prop) : Prop := (s0 = 0 ∨ s0 = 1) ∧ Q s0 M
theorem b_Mod_isPlace_29 {d : Nat} {s0 : Int32} {M : eM} {Q : Int32 → eM → Prop} (hd : 0 ≤ d) (h : w_Mod_isPlace_29 s0 M Q ) : e_E 161 d 0 0 29 [] [.int s0] M (e_QI Q) := by
  unfold w_Mod_isPlace_29 at h
  exact r_zreturn (kd161 rfl) R161 h.1 h.2
def w_Mod_isPlace_28 (M : eM) (Q : Int32 → eM → Prop) : Prop := w_Mod_isPlace_29 0 M Q
theorem b_Mod_isPlace_28 {d : Nat} {M : eM} {Q : Int32 → eM → Prop} (hd : 0 ≤ d) (h : w_Mod_isPlace_28 M Q ) : e_E 161 d 0 0 28 [] [] M (e_QI Q) := by
  unfold w_Mod_isPlace_28 at h
  refine r_iconst (kd161 rfl) (y := 0) (by decide) rfl ?_
  exact (b_Mod_isPlace_29 hd h).less e_sn
def w_Mod_isPlace (l0 : Nat) (l1 : Int32) (l2 : Int32) (M : eM) (Q : Int32 → eM → Prop) : Prop := e_ob M l0 12 ∧ e_ai M (gr M l0 25) l1 ∧ ((gi M (gr M l0 25) l1.toNatClampNeg) ≤ l2 → w_Mod_isPlace_28 M Q) ∧ (¬ (gi M (gr M l0 25) l1.toNatClampNeg) ≤ l2 → e_ob M l0 12 ∧ e_ar M (gr M l0 27) 22 ((120 * l1) + l2) ∧ ((gi M (gr M l0 27) ((120 * l1) + l2).toNatClampNeg) = 0 → w_Mod_isPlace_28 M Q) ∧ (¬ (gi M (gr M l0 27) ((120 * l1) + l2).toNatClampNeg) = 0 → w_Mod_isPlace_29 1 M Q))
theorem b_Mod_isPlace {d : Nat} {l0 : Nat} {l1 : Int32} {l2 : Int32} {M : eM} {Q : Int32 → eM → Prop} (hd : 0 ≤ d) (h : w_Mod_isPlace l0 l1 l2 M Q) : e_CI 161 d 0 0 [.ref l0, .int l1, .int l2] M Q := by
  unfold w_Mod_isPlace at h
  show e_E 161 d 0 0 0 [(0, .ref l0), (1, .int l1), (2, .int l2)] [] M (e_QI Q)
  refine r_iload_n (kd161 rfl) rfl rfl ?_
  refine r_aload_n (kd161 rfl) rfl rfl ?_
  obtain ⟨g, h⟩ := h
  refine r_get2 (kd161 rfl) (by decide) rfl g rfl ?_
  refine r_iload_n (kd161 rfl) rfl rfl ?_
  obtain ⟨g, h⟩ := h
  refine r_iaload (kd161 rfl) g rfl ?_
  refine r_icmp_ge (kd161 rfl) rfl (fun c => ?_) (fun c => ?_)
  · have h := h.1 c
    exact (b_Mod_isPlace_28 hd h).less e_sn
  · have h := h.2 c
    refine r_aload_n (kd161 rfl) rfl rfl ?_
    obtain ⟨g, h⟩ := h
    refine r_get2 (kd161 rfl) (by decide) rfl g rfl ?_
    refine r_bipush (kd161 rfl) (y := 120) (by decide) rfl ?_
    refine r_iload_n (kd161 rfl) rfl rfl ?_
    refine r_imul (kd161 rfl) rfl ?_
    refine r_iload_n (kd161 rfl) rfl rfl ?_
    refine r_iadd (kd161 rfl) rfl ?_
    obtain ⟨g, h⟩ := h
    refine r_baload (kd161 rfl) g rfl ?_
    refine r_if_eq (kd161 rfl) rfl (fun c => ?_) (fun c => ?_)
    · have h := h.1 c
      exact (b_Mod_isPlace_28 hd h).less e_sn
    · have h := h.2 c
      refine r_iconst (kd161 rfl) (y := 1) (by decide) rfl ?_
      refine r_goto (kd161 rfl) ?_
      exact (b_Mod_isPlace_29 hd h).less e_sn
/-- TierMillModel.isGood(II)Z -/
theorem kd162 {pc : Nat} {q : eI} (h : e_d162.lookup pc = some q) : e_dec 162 pc = some q := h
theorem L162 : (e_m 162).2.2.1 = 7 := rfl
theorem R162 : (e_m 162).2.2.2.1 = (some .boolean) := rfl
set_option maxRecDepth 100000 in
def w_Mod_isGood_200 (s0 : Int32) (M : eM) (Q : Int32 → eM → Prop) : Prop := (s0 = 0 ∨ s0 = 1) ∧ Q s0 M
set_option maxRecDepth 100000 in
theorem b_Mod_isGood_200 {d : Nat} {s0 : Int32} {M : eM} {Q : Int32 → eM → Prop} (hd : 2 ≤ d) (h : w_Mod_isGood_200 s0 M Q ) : e_E 162 d 0 0 200 [] [.int s0] M (e_QI Q) := by
  unfold w_Mod_isGood_200 at h
  exact r_zreturn (kd162 rfl) R162 h.1 h.2
set_option maxRecDepth 100000 in
def w_Mod_isGood_184 (l0 : Nat) (l1 : Int32) (l5 : Int32) (M : eM) (Q : Int32 → eM → Prop) : Prop := e_ob M l0 12 ∧ e_ai M (gr M l0 23) l1 ∧ ((gi M (gr M l0 23) l1.toNatClampNeg) ≤ l5 → w_Mod_isGood_200 0 M Q) ∧ (¬ (gi M (gr M l0 23) l1.toNatClampNeg) ≤ l5 → w_Mod_isGood_200 1 M Q)
set_option maxRecDepth 100000 in
theorem b_Mod_isGood_184 {d : Nat} {l0 : Nat} {l1 : Int32} {l5 : Int32} {M : eM} {Q : Int32 → eM → Prop} (hd : 2 ≤ d) (h : w_Mod_isGood_184 l0 l1 l5 M Q ) : e_E 162 d 0 0 184 [(0, .ref l0), (1, .int l1), (5, .int l5)] [] M (e_QI Q) := by
  unfold w_Mod_isGood_184 at h
  refine r_iload (kd162 rfl) rfl rfl ?_
  refine r_aload_n (kd162 rfl) rfl rfl ?_
  obtain ⟨g, h⟩ := h
  refine r_get2 (kd162 rfl) (by decide) rfl g rfl ?_
  refine r_iload_n (kd162 rfl) rfl rfl ?_
  obtain ⟨g, h⟩ := h
  refine r_iaload (kd162 rfl) g rfl ?_
  refine r_icmp_ge (kd162 rfl) rfl (fun c => ?_) (fun c => ?_)
  · have h := h.1 c
    refine r_iconst (kd162 rfl) (y := 0) (by decide) rfl ?_
    exact (b_Mod_isGood_200 hd h).less e_sn
  · have h := h.2 c
    refine r_iconst (kd162 rfl) (y := 1) (by decide) rfl ?_
    refine r_goto (kd162 rfl) ?_
    exact (b_Mod_isGood_200 hd h).less e_sn
set_option maxRecDepth 100000 in
def w_Mod_isGood_215 (s0 : Int32) (M : eM) (Q : Int32 → eM → Prop) : Prop := (s0 = 0 ∨ s0 = 1) ∧ Q s0 M
set_option maxRecDepth 100000 in
theorem b_Mod_isGood_215 {d : Nat} {s0 : Int32} {M : eM} {Q : Int32 → eM → Prop} (hd : 2 ≤ d) (h : w_Mod_isGood_215 s0 M Q ) : e_E 162 d 0 0 215 [] [.int s0] M (e_QI Q) := by
  unfold w_Mod_isGood_215 at h
  exact r_zreturn (kd162 rfl) R162 h.1 h.2
set_option maxRecDepth 100000 in
def w_Mod_isGood_201 (l0 : Nat) (l5 : Int32) (M : eM) (Q : Int32 → eM → Prop) : Prop := e_ob M l0 12 ∧ ((gi M l0 11) ≤ l5 → w_Mod_isGood_215 0 M Q) ∧ (¬ (gi M l0 11) ≤ l5 → w_Mod_isGood_215 1 M Q)
set_option maxRecDepth 100000 in
theorem b_Mod_isGood_201 {d : Nat} {l0 : Nat} {l5 : Int32} {M : eM} {Q : Int32 → eM → Prop} (hd : 2 ≤ d) (h : w_Mod_isGood_201 l0 l5 M Q ) : e_E 162 d 0 0 201 [(0, .ref l0), (5, .int l5)] [] M (e_QI Q) := by
  unfold w_Mod_isGood_201 at h
  refine r_iload (kd162 rfl) rfl rfl ?_
  refine r_aload_n (kd162 rfl) rfl rfl ?_
  obtain ⟨g, h⟩ := h
  refine r_get0 (kd162 rfl) (by decide) rfl g rfl ?_
  refine r_icmp_ge (kd162 rfl) rfl (fun c => ?_) (fun c => ?_)
  · have h := h.1 c
    refine r_iconst (kd162 rfl) (y := 0) (by decide) rfl ?_
    exact (b_Mod_isGood_215 hd h).less e_sn
  · have h := h.2 c
    refine r_iconst (kd162 rfl) (y := 1) (by decide) rfl ?_
    refine r_goto (kd162 rfl) ?_
    exact (b_Mod_isGood_215 hd h).less e_sn
set_option maxRecDepth 100000 in
def w_Mod_isGood_248 (s0 : Int32) (M : eM) (Q : Int32 → eM → Prop) : Prop := (s0 = 0 ∨ s0 = 1) ∧ Q s0 M
set_option maxRecDepth 100000 in
theorem b_Mod_isGood_248 {d : Nat} {s0 : Int32} {M : eM} {Q : Int32 → eM → Prop} (hd : 2 ≤ d) (h : w_Mod_isGood_248 s0 M Q ) : e_E 162 d 0 0 248 [] [.int s0] M (e_QI Q) := by
  unfold w_Mod_isGood_248 at h
  exact r_zreturn (kd162 rfl) R162 h.1 h.2
set_option maxRecDepth 100000 in
def w_Mod_isGood_247 (M : eM) (Q : Int32 → eM → Prop) : Prop := w_Mod_isGood_248 0 M Q
set_option maxRecDepth 100000 in
theorem b_Mod_isGood_247 {d : Nat} {M : eM} {Q : Int32 → eM → Prop} (hd : 2 ≤ d) (h : w_Mod_isGood_247 M Q ) : e_E 162 d 0 0 247 [] [] M (e_QI Q) := by
  unfold w_Mod_isGood_247 at h
  refine r_iconst (kd162 rfl) (y := 0) (by decide) rfl ?_
  exact (b_Mod_isGood_248 hd h).less e_sn
set_option maxRecDepth 100000 in
def w_Mod_isGood_216 (l0 : Nat) (l1 : Int32) (l2 : Int32) (l5 : Int32) (M : eM) (Q : Int32 → eM → Prop) : Prop := e_ob M l0 12 ∧ ((gi M l0 11) ≤ l5 → w_Mod_isGood_247 M Q) ∧ (¬ (gi M l0 11) ≤ l5 → e_ob M l0 12 ∧ w_Mod_byteAt l0 l1 (l2 + 2) M (fun (v15 : Int32) (M14 : eM) => e_ob M14 l0 12 ∧ e_ai M14 (gr M14 l0 13) l5 ∧ ((gi M14 (gr M14 l0 13) l5.toNatClampNeg) ≤ v15 → w_Mod_isGood_247 M14 Q) ∧ (¬ (gi M14 (gr M14 l0 13) l5.toNatClampNeg) ≤ v15 → w_Mod_isGood_248 1 M14 Q)))
set_option maxRecDepth 100000 in
theorem b_Mod_isGood_216 {d : Nat} {l0 : Nat} {l1 : Int32} {l2 : Int32} {l5 : Int32} {M : eM} {Q : Int32 → eM → Prop} (hd : 2 ≤ d) (h : w_Mod_isGood_216 l0 l1 l2 l5 M Q ) : e_E 162 d 0 0 216 [(0, .ref l0), (1, .int l1), (2, .int l2), (5, .int l5)] [] M (e_QI Q) := by
  unfold w_Mod_isGood_216 at h
  refine r_iload (kd162 rfl) rfl rfl ?_
  refine r_aload_n (kd162 rfl) rfl rfl ?_
  obtain ⟨g, h⟩ := h
  refine r_get0 (kd162 rfl) (by decide) rfl g rfl ?_
  refine r_icmp_ge (kd162 rfl) rfl (fun c => ?_) (fun c => ?_)
  · have h := h.1 c
    exact (b_Mod_isGood_247 hd h).less e_sn
  · have h := h.2 c
    refine r_aload_n (kd162 rfl) rfl rfl ?_
    refine r_iload_n (kd162 rfl) rfl rfl ?_
    refine r_iload_n (kd162 rfl) rfl rfl ?_
    refine r_iconst (kd162 rfl) (y := 2) (by decide) rfl ?_
    refine r_iadd (kd162 rfl) rfl ?_
    obtain ⟨g, h⟩ := h
    refine r_callVI (d' := d - 1) (by omega) (kd162 rfl) (by decide) rfl rfl rfl rfl (Nat.le_of_ble_eq_true rfl) rfl L158 (Nat.le_of_ble_eq_true rfl) (Nat.le_of_ble_eq_true rfl) g (Nat.zero_le _) (Nat.zero_le _) rfl rfl rfl (b_Mod_byteAt (by omega) h) (fun x1 M1 h => ?_)
    refine r_aload_n (kd162 rfl) rfl rfl ?_
    obtain ⟨g, h⟩ := h
    refine r_get2 (kd162 rfl) (by decide) rfl g rfl ?_
    refine r_iload (kd162 rfl) rfl rfl ?_
    obtain ⟨g, h⟩ := h
    refine r_iaload (kd162 rfl) g rfl ?_
    refine r_icmp_ge (kd162 rfl) rfl (fun c => ?_) (fun c => ?_)
    · have h := h.1 c
      exact (b_Mod_isGood_247 hd h).less e_sn
    · have h := h.2 c
      refine r_iconst (kd162 rfl) (y := 1) (by decide) rfl ?_
      refine r_goto (kd162 rfl) ?_
      exact (b_Mod_isGood_248 hd h).less e_sn
set_option maxRecDepth 100000 in
def w_Mod_isGood_263 (s0 : Int32) (M : eM) (Q : Int32 → eM → Prop) : Prop := (s0 = 0 ∨ s0 = 1) ∧ Q s0 M
set_option maxRecDepth 100000 in
theorem b_Mod_isGood_263 {d : Nat} {s0 : Int32} {M : eM} {Q : Int32 → eM → Prop} (hd : 2 ≤ d) (h : w_Mod_isGood_263 s0 M Q ) : e_E 162 d 0 0 263 [] [.int s0] M (e_QI Q) := by
  unfold w_Mod_isGood_263 at h
  exact r_zreturn (kd162 rfl) R162 h.1 h.2
set_option maxRecDepth 100000 in
def w_Mod_isGood_278 (s0 : Int32) (M : eM) (Q : Int32 → eM → Prop) : Prop := (s0 = 0 ∨ s0 = 1) ∧ Q s0 M
set_option maxRecDepth 100000 in
theorem b_Mod_isGood_278 {d : Nat} {s0 : Int32} {M : eM} {Q : Int32 → eM → Prop} (hd : 2 ≤ d) (h : w_Mod_isGood_278 s0 M Q ) : e_E 162 d 0 0 278 [] [.int s0] M (e_QI Q) := by
  unfold w_Mod_isGood_278 at h
  exact r_zreturn (kd162 rfl) R162 h.1 h.2
set_option maxRecDepth 100000 in
def w_Mod_isGood_292 (M : eM) (Q : Int32 → eM → Prop) : Prop := ((0 : Int32) = 0 ∨ (0 : Int32) = 1) ∧ Q (0 : Int32) M
set_option maxRecDepth 100000 in
theorem b_Mod_isGood_292 {d : Nat} {M : eM} {Q : Int32 → eM → Prop} (hd : 2 ≤ d) (h : w_Mod_isGood_292 M Q ) : e_E 162 d 0 0 292 [] [] M (e_QI Q) := by
  unfold w_Mod_isGood_292 at h
  refine r_iconst (kd162 rfl) (y := 0) (by decide) rfl ?_
  exact r_zreturn (kd162 rfl) R162 h.1 h.2
set_option maxRecDepth 100000 in
def w_Mod_isGood_297 : Nat → Nat → Int32 → Int32 → Int32 → Int32 → eM → (Int32 → eM → Prop) → Prop
  | 0, _, _, _, _, _, _, _ => False
  | n + 1, l0, l1, l2, l5, l6, M, Q => (l5 < l6 → ((1 : Int32) = 0 ∨ (1 : Int32) = 1) ∧ Q (1 : Int32) M) ∧ (¬ l5 < l6 → e_ob M l0 12 ∧ w_Mod_byteAt l0 l1 ((l2 + 2) + l6) M (fun (v11 : Int32) (M10 : eM) => e_ob M10 l0 12 ∧ w_Mod_isPlace l0 l1 v11 M10 (fun (v13 : Int32) (M12 : eM) => (¬ v13 = 0 → (fun l0 l1 l2 l5 l6 M => w_Mod_isGood_297 n l0 l1 l2 l5 l6 M Q ) l0 l1 l2 l5 (l6 + 1) M12) ∧ (v13 = 0 → ((0 : Int32) = 0 ∨ (0 : Int32) = 1) ∧ Q (0 : Int32) M12))))
set_option maxRecDepth 100000 in
theorem b_Mod_isGood_297 {d : Nat} {Q : Int32 → eM → Prop} (hd : 2 ≤ d) (n : Nat) : ∀ (l0 : Nat) (l1 : Int32) (l2 : Int32) (l5 : Int32) (l6 : Int32) (M : eM), w_Mod_isGood_297 n l0 l1 l2 l5 l6 M Q → e_E 162 d 0 0 297 [(0, .ref l0), (1, .int l1), (2, .int l2), (5, .int l5), (6, .int l6)] [] M (e_QI Q) := by
  induction n with
  | zero => intro l0 l1 l2 l5 l6 M h; exact False.elim h
  | succ n ih =>
    intro l0 l1 l2 l5 l6 M h
    have hk297 := ih
    refine r_iload (kd162 rfl) rfl rfl ?_
    refine r_iload (kd162 rfl) rfl rfl ?_
    refine r_icmp_gt (kd162 rfl) rfl (fun c => ?_) (fun c => ?_)
    · have h := h.1 c
      refine r_iconst (kd162 rfl) (y := 1) (by decide) rfl ?_
      exact r_zreturn (kd162 rfl) R162 h.1 h.2
    · have h := h.2 c
      refine r_aload_n (kd162 rfl) rfl rfl ?_
      refine r_iload_n (kd162 rfl) rfl rfl ?_
      refine r_aload_n (kd162 rfl) rfl rfl ?_
      refine r_iload_n (kd162 rfl) rfl rfl ?_
      refine r_iload_n (kd162 rfl) rfl rfl ?_
      refine r_iconst (kd162 rfl) (y := 2) (by decide) rfl ?_
      refine r_iadd (kd162 rfl) rfl ?_
      refine r_iload (kd162 rfl) rfl rfl ?_
      refine r_iadd (kd162 rfl) rfl ?_
      obtain ⟨g, h⟩ := h
      refine r_callVI (d' := d - 1) (by omega) (kd162 rfl) (by decide) rfl rfl rfl rfl (Nat.le_of_ble_eq_true rfl) rfl L158 (Nat.le_of_ble_eq_true rfl) (Nat.le_of_ble_eq_true rfl) g (Nat.zero_le _) (Nat.zero_le _) rfl rfl rfl (b_Mod_byteAt (by omega) h) (fun x1 M1 h => ?_)
      obtain ⟨g, h⟩ := h
      refine r_callVI (d' := d - 1) (by omega) (kd162 rfl) (by decide) rfl rfl rfl rfl (Nat.le_of_ble_eq_true rfl) rfl L161 (Nat.le_of_ble_eq_true rfl) (Nat.le_of_ble_eq_true rfl) g (Nat.zero_le _) (Nat.zero_le _) rfl rfl rfl (b_Mod_isPlace (by omega) h) (fun x1 M1 h => ?_)
      refine r_if_ne (kd162 rfl) rfl (fun c => ?_) (fun c => ?_)
      · have h := h.1 c
        refine r_iinc (kd162 rfl) rfl (y := 1) (by decide) L162 (by decide) rfl rfl ?_
        refine r_goto (kd162 rfl) ?_
        exact (hk297 _ _ _ _ _ _ h).less (e_sc (List.mem_of_getElem? (i := 1) rfl) (e_sc (List.mem_of_getElem? (i := 2) rfl) (e_sc (List.mem_of_getElem? (i := 3) rfl) (e_sc (List.mem_of_getElem? (i := 4) rfl) (e_sc (List.mem_of_getElem? (i := 0) rfl) e_sn)))))
      · have h := h.2 c
        refine r_iconst (kd162 rfl) (y := 0) (by decide) rfl ?_
        exact r_zreturn (kd162 rfl) R162 h.1 h.2
set_option maxRecDepth 100000 in
def w_Mod_isGood_362 (s0 : Int32) (M : eM) (Q : Int32 → eM → Prop) : Prop := (s0 = 0 ∨ s0 = 1) ∧ Q s0 M
set_option maxRecDepth 100000 in
theorem b_Mod_isGood_362 {d : Nat} {s0 : Int32} {M : eM} {Q : Int32 → eM → Prop} (hd : 2 ≤ d) (h : w_Mod_isGood_362 s0 M Q ) : e_E 162 d 0 0 362 [] [.int s0] M (e_QI Q) := by
  unfold w_Mod_isGood_362 at h
  exact r_zreturn (kd162 rfl) R162 h.1 h.2
set_option maxRecDepth 100000 in
def w_Mod_isGood_357 (M : eM) (Q : Int32 → eM → Prop) : Prop := w_Mod_isGood_362 1 M Q
set_option maxRecDepth 100000 in
theorem b_Mod_isGood_357 {d : Nat} {M : eM} {Q : Int32 → eM → Prop} (hd : 2 ≤ d) (h : w_Mod_isGood_357 M Q ) : e_E 162 d 0 0 357 [] [] M (e_QI Q) := by
  unfold w_Mod_isGood_357 at h
  refine r_iconst (kd162 rfl) (y := 1) (by decide) rfl ?_
  refine r_goto (kd162 rfl) ?_
  exact (b_Mod_isGood_362 hd h).less e_sn
set_option maxRecDepth 100000 in
def w_Mod_isGood_83 (l0 : Nat) (l1 : Int32) (l2 : Int32) (l4 : Int32) (l5 : Int32) (M : eM) (Q : Int32 → eM → Prop) : Prop := (l4 = 3 → w_Mod_isGood_184 l0 l1 l5 M Q) ∧ (¬ l4 = 3 → (l4 = 4 → w_Mod_isGood_184 l0 l1 l5 M Q) ∧ (¬ l4 = 4 → (l4 = 20 → w_Mod_isGood_184 l0 l1 l5 M Q) ∧ (¬ l4 = 20 → (l4 = 38 → w_Mod_isGood_201 l0 l5 M Q) ∧ (¬ l4 = 38 → (l4 = 39 → w_Mod_isGood_216 l0 l1 l2 l5 M Q) ∧ (¬ l4 = 39 → (l4 = 40 → w_Mod_isGood_216 l0 l1 l2 l5 M Q) ∧ (¬ l4 = 40 → (l4 = 45 → w_Mod_isGood_201 l0 l5 M Q) ∧ (¬ l4 = 45 → (l4 = 46 → w_Mod_isGood_201 l0 l5 M Q) ∧ (¬ l4 = 46 → (l4 = 47 → e_ob M l0 12 ∧ ((gi M l0 19) ≤ l5 → w_Mod_isGood_263 0 M Q) ∧ (¬ (gi M l0 19) ≤ l5 → w_Mod_isGood_263 1 M Q)) ∧ (¬ l4 = 47 → (l4 = 48 → e_ob M l0 12 ∧ ((gi M l0 15) ≤ l5 → w_Mod_isGood_278 0 M Q) ∧ (¬ (gi M l0 15) ≤ l5 → w_Mod_isGood_278 1 M Q)) ∧ (¬ l4 = 48 → (l4 = 53 → (l5 < 1 → w_Mod_isGood_292 M Q) ∧ (¬ l5 < 1 → (l5 ≤ 8 → ∃ n7 : Nat, w_Mod_isGood_297 n7 l0 l1 l2 l5 0 M Q) ∧ (¬ l5 ≤ 8 → w_Mod_isGood_292 M Q))) ∧ (¬ l4 = 53 → (l4 < 21 → w_Mod_isGood_357 M Q) ∧ (¬ l4 < 21 → (37 < l4 → w_Mod_isGood_357 M Q) ∧ (¬ 37 < l4 → e_ob M l0 12 ∧ w_Mod_isPlace l0 l1 l5 M (fun (v9 : Int32) (M8 : eM) => (v9 = 0 → w_Mod_isGood_362 0 M8 Q) ∧ (¬ v9 = 0 → w_Mod_isGood_357 M8 Q)))))))))))))))
set_option maxRecDepth 100000 in
theorem b_Mod_isGood_83 {d : Nat} {l0 : Nat} {l1 : Int32} {l2 : Int32} {l4 : Int32} {l5 : Int32} {M : eM} {Q : Int32 → eM → Prop} (hd : 2 ≤ d) (h : w_Mod_isGood_83 l0 l1 l2 l4 l5 M Q ) : e_E 162 d 0 0 83 [(0, .ref l0), (1, .int l1), (2, .int l2), (4, .int l4), (5, .int l5)] [] M (e_QI Q) := by
  unfold w_Mod_isGood_83 at h
  refine r_iload (kd162 rfl) rfl rfl ?_
  refine r_lookupswitch (kd162 rfl) (u := 333) (qs := [(3, 184), (4, 184), (20, 184), (38, 201), (39, 216), (40, 216), (45, 201), (46, 201), (47, 249), (48, 264), (53, 279)]) rfl rfl (by decide) ?_
  refine ⟨fun c => ?_, fun c => ?_⟩
  · have h := h.1 c
    exact (b_Mod_isGood_184 hd h).less (e_sc (List.mem_of_getElem? (i := 0) rfl) (e_sc (List.mem_of_getElem? (i := 1) rfl) (e_sc (List.mem_of_getElem? (i := 4) rfl) e_sn)))
  have h := h.2 c
  refine ⟨fun c => ?_, fun c => ?_⟩
  · have h := h.1 c
    exact (b_Mod_isGood_184 hd h).less (e_sc (List.mem_of_getElem? (i := 0) rfl) (e_sc (List.mem_of_getElem? (i := 1) rfl) (e_sc (List.mem_of_getElem? (i := 4) rfl) e_sn)))
  have h := h.2 c
  refine ⟨fun c => ?_, fun c => ?_⟩
  · have h := h.1 c
    exact (b_Mod_isGood_184 hd h).less (e_sc (List.mem_of_getElem? (i := 0) rfl) (e_sc (List.mem_of_getElem? (i := 1) rfl) (e_sc (List.mem_of_getElem? (i := 4) rfl) e_sn)))
  have h := h.2 c
  refine ⟨fun c => ?_, fun c => ?_⟩
  · have h := h.1 c
    exact (b_Mod_isGood_201 hd h).less (e_sc (List.mem_of_getElem? (i := 0) rfl) (e_sc (List.mem_of_getElem? (i := 4) rfl) e_sn))
  have h := h.2 c
  refine ⟨fun c => ?_, fun c => ?_⟩
  · have h := h.1 c
    exact (b_Mod_isGood_216 hd h).less (e_sc (List.mem_of_getElem? (i := 0) rfl) (e_sc (List.mem_of_getElem? (i := 1) rfl) (e_sc (List.mem_of_getElem? (i := 2) rfl) (e_sc (List.mem_of_getElem? (i := 4) rfl) e_sn))))
  have h := h.2 c
  refine ⟨fun c => ?_, fun c => ?_⟩
  · have h := h.1 c
    exact (b_Mod_isGood_216 hd h).less (e_sc (List.mem_of_getElem? (i := 0) rfl) (e_sc (List.mem_of_getElem? (i := 1) rfl) (e_sc (List.mem_of_getElem? (i := 2) rfl) (e_sc (List.mem_of_getElem? (i := 4) rfl) e_sn))))
  have h := h.2 c
  refine ⟨fun c => ?_, fun c => ?_⟩
  · have h := h.1 c
    exact (b_Mod_isGood_201 hd h).less (e_sc (List.mem_of_getElem? (i := 0) rfl) (e_sc (List.mem_of_getElem? (i := 4) rfl) e_sn))
  have h := h.2 c
  refine ⟨fun c => ?_, fun c => ?_⟩
  · have h := h.1 c
    exact (b_Mod_isGood_201 hd h).less (e_sc (List.mem_of_getElem? (i := 0) rfl) (e_sc (List.mem_of_getElem? (i := 4) rfl) e_sn))
  have h := h.2 c
  refine ⟨fun c => ?_, fun c => ?_⟩
  · have h := h.1 c
    refine r_iload (kd162 rfl) rfl rfl ?_
    refine r_aload_n (kd162 rfl) rfl rfl ?_
    obtain ⟨g, h⟩ := h
    refine r_get0 (kd162 rfl) (by decide) rfl g rfl ?_
    refine r_icmp_ge (kd162 rfl) rfl (fun c => ?_) (fun c => ?_)
    · have h := h.1 c
      refine r_iconst (kd162 rfl) (y := 0) (by decide) rfl ?_
      exact (b_Mod_isGood_263 hd h).less e_sn
    · have h := h.2 c
      refine r_iconst (kd162 rfl) (y := 1) (by decide) rfl ?_
      refine r_goto (kd162 rfl) ?_
      exact (b_Mod_isGood_263 hd h).less e_sn
  have h := h.2 c
  refine ⟨fun c => ?_, fun c => ?_⟩
  · have h := h.1 c
    refine r_iload (kd162 rfl) rfl rfl ?_
    refine r_aload_n (kd162 rfl) rfl rfl ?_
    obtain ⟨g, h⟩ := h
    refine r_get0 (kd162 rfl) (by decide) rfl g rfl ?_
    refine r_icmp_ge (kd162 rfl) rfl (fun c => ?_) (fun c => ?_)
    · have h := h.1 c
      refine r_iconst (kd162 rfl) (y := 0) (by decide) rfl ?_
      exact (b_Mod_isGood_278 hd h).less e_sn
    · have h := h.2 c
      refine r_iconst (kd162 rfl) (y := 1) (by decide) rfl ?_
      refine r_goto (kd162 rfl) ?_
      exact (b_Mod_isGood_278 hd h).less e_sn
  have h := h.2 c
  refine ⟨fun c => ?_, fun c => ?_⟩
  · have h := h.1 c
    refine r_iload (kd162 rfl) rfl rfl ?_
    refine r_iconst (kd162 rfl) (y := 1) (by decide) rfl ?_
    refine r_icmp_lt (kd162 rfl) rfl (fun c => ?_) (fun c => ?_)
    · have h := h.1 c
      exact (b_Mod_isGood_292 hd h).less e_sn
    · have h := h.2 c
      refine r_iload (kd162 rfl) rfl rfl ?_
      refine r_bipush (kd162 rfl) (y := 8) (by decide) rfl ?_
      refine r_icmp_le (kd162 rfl) rfl (fun c => ?_) (fun c => ?_)
      · have h := h.1 c
        refine r_iconst (kd162 rfl) (y := 0) (by decide) rfl ?_
        refine r_istore (kd162 rfl) L162 (by decide) rfl rfl ?_
        obtain ⟨n, h⟩ := h
        exact (b_Mod_isGood_297 hd n _ _ _ _ _ _ h).less (e_sc (List.mem_of_getElem? (i := 1) rfl) (e_sc (List.mem_of_getElem? (i := 2) rfl) (e_sc (List.mem_of_getElem? (i := 3) rfl) (e_sc (List.mem_of_getElem? (i := 5) rfl) (e_sc (List.mem_of_getElem? (i := 0) rfl) e_sn)))))
      · have h := h.2 c
        exact (b_Mod_isGood_292 hd h).less e_sn
  have h := h.2 c
  show e_E 162 _ _ _ 333 _ _ _ _
  refine r_iload (kd162 rfl) rfl rfl ?_
  refine r_bipush (kd162 rfl) (y := 21) (by decide) rfl ?_
  refine r_icmp_lt (kd162 rfl) rfl (fun c => ?_) (fun c => ?_)
  · have h := h.1 c
    exact (b_Mod_isGood_357 hd h).less e_sn
  · have h := h.2 c
    refine r_iload (kd162 rfl) rfl rfl ?_
    refine r_bipush (kd162 rfl) (y := 37) (by decide) rfl ?_
    refine r_icmp_gt (kd162 rfl) rfl (fun c => ?_) (fun c => ?_)
    · have h := h.1 c
      exact (b_Mod_isGood_357 hd h).less e_sn
    · have h := h.2 c
      refine r_aload_n (kd162 rfl) rfl rfl ?_
      refine r_iload_n (kd162 rfl) rfl rfl ?_
      refine r_iload (kd162 rfl) rfl rfl ?_
      obtain ⟨g, h⟩ := h
      refine r_callVI (d' := d - 1) (by omega) (kd162 rfl) (by decide) rfl rfl rfl rfl (Nat.le_of_ble_eq_true rfl) rfl L161 (Nat.le_of_ble_eq_true rfl) (Nat.le_of_ble_eq_true rfl) g (Nat.zero_le _) (Nat.zero_le _) rfl rfl rfl (b_Mod_isPlace (by omega) h) (fun x1 M1 h => ?_)
      refine r_if_eq (kd162 rfl) rfl (fun c => ?_) (fun c => ?_)
      · have h := h.1 c
        refine r_iconst (kd162 rfl) (y := 0) (by decide) rfl ?_
        exact (b_Mod_isGood_362 hd h).less e_sn
      · have h := h.2 c
        exact (b_Mod_isGood_357 hd h).less e_sn
set_option maxRecDepth 100000 in
def w_Mod_isGood_39 (l0 : Nat) (l1 : Int32) (l2 : Int32) (l3 : Int32) (l4 : Int32) (s0 : Int32) (M : eM) (Q : Int32 → eM → Prop) : Prop := e_ob M l0 12 ∧ e_ai M (gr M l0 25) l1 ∧ (¬ (l2 + l3) = (gi M (gr M l0 25) l1.toNatClampNeg) → w_Mod_isGood_83 l0 l1 l2 l4 s0 M Q) ∧ ((l2 + l3) = (gi M (gr M l0 25) l1.toNatClampNeg) → (l4 = 21 → w_Mod_isGood_83 l0 l1 l2 l4 s0 M Q) ∧ (¬ l4 = 21 → (l4 = 49 → w_Mod_isGood_83 l0 l1 l2 l4 s0 M Q) ∧ (¬ l4 = 49 → (l4 = 50 → w_Mod_isGood_83 l0 l1 l2 l4 s0 M Q) ∧ (¬ l4 = 50 → (l4 = 53 → w_Mod_isGood_83 l0 l1 l2 l4 s0 M Q) ∧ (¬ l4 = 53 → ((0 : Int32) = 0 ∨ (0 : Int32) = 1) ∧ Q (0 : Int32) M)))))
set_option maxRecDepth 100000 in
theorem b_Mod_isGood_39 {d : Nat} {l0 : Nat} {l1 : Int32} {l2 : Int32} {l3 : Int32} {l4 : Int32} {s0 : Int32} {M : eM} {Q : Int32 → eM → Prop} (hd : 2 ≤ d) (h : w_Mod_isGood_39 l0 l1 l2 l3 l4 s0 M Q ) : e_E 162 d 0 0 39 [(0, .ref l0), (1, .int l1), (2, .int l2), (3, .int l3), (4, .int l4)] [.int s0] M (e_QI Q) := by
  unfold w_Mod_isGood_39 at h
  refine r_istore (kd162 rfl) L162 (by decide) rfl rfl ?_
  refine r_iload_n (kd162 rfl) rfl rfl ?_
  refine r_iload_n (kd162 rfl) rfl rfl ?_
  refine r_iadd (kd162 rfl) rfl ?_
  refine r_aload_n (kd162 rfl) rfl rfl ?_
  obtain ⟨g, h⟩ := h
  refine r_get2 (kd162 rfl) (by decide) rfl g rfl ?_
  refine r_iload_n (kd162 rfl) rfl rfl ?_
  obtain ⟨g, h⟩ := h
  refine r_iaload (kd162 rfl) g rfl ?_
  refine r_icmp_ne (kd162 rfl) rfl (fun c => ?_) (fun c => ?_)
  · have h := h.1 c
    exact (b_Mod_isGood_83 hd h).less (e_sc (List.mem_of_getElem? (i := 1) rfl) (e_sc (List.mem_of_getElem? (i := 2) rfl) (e_sc (List.mem_of_getElem? (i := 3) rfl) (e_sc (List.mem_of_getElem? (i := 5) rfl) (e_sc (List.mem_of_getElem? (i := 0) rfl) e_sn)))))
  · have h := h.2 c
    refine r_iload (kd162 rfl) rfl rfl ?_
    refine r_bipush (kd162 rfl) (y := 21) (by decide) rfl ?_
    refine r_icmp_eq (kd162 rfl) rfl (fun c => ?_) (fun c => ?_)
    · have h := h.1 c
      exact (b_Mod_isGood_83 hd h).less (e_sc (List.mem_of_getElem? (i := 1) rfl) (e_sc (List.mem_of_getElem? (i := 2) rfl) (e_sc (List.mem_of_getElem? (i := 3) rfl) (e_sc (List.mem_of_getElem? (i := 5) rfl) (e_sc (List.mem_of_getElem? (i := 0) rfl) e_sn)))))
    · have h := h.2 c
      refine r_iload (kd162 rfl) rfl rfl ?_
      refine r_bipush (kd162 rfl) (y := 49) (by decide) rfl ?_
      refine r_icmp_eq (kd162 rfl) rfl (fun c => ?_) (fun c => ?_)
      · have h := h.1 c
        exact (b_Mod_isGood_83 hd h).less (e_sc (List.mem_of_getElem? (i := 1) rfl) (e_sc (List.mem_of_getElem? (i := 2) rfl) (e_sc (List.mem_of_getElem? (i := 3) rfl) (e_sc (List.mem_of_getElem? (i := 5) rfl) (e_sc (List.mem_of_getElem? (i := 0) rfl) e_sn)))))
      · have h := h.2 c
        refine r_iload (kd162 rfl) rfl rfl ?_
        refine r_bipush (kd162 rfl) (y := 50) (by decide) rfl ?_
        refine r_icmp_eq (kd162 rfl) rfl (fun c => ?_) (fun c => ?_)
        · have h := h.1 c
          exact (b_Mod_isGood_83 hd h).less (e_sc (List.mem_of_getElem? (i := 1) rfl) (e_sc (List.mem_of_getElem? (i := 2) rfl) (e_sc (List.mem_of_getElem? (i := 3) rfl) (e_sc (List.mem_of_getElem? (i := 5) rfl) (e_sc (List.mem_of_getElem? (i := 0) rfl) e_sn)))))
        · have h := h.2 c
          refine r_iload (kd162 rfl) rfl rfl ?_
          refine r_bipush (kd162 rfl) (y := 53) (by decide) rfl ?_
          refine r_icmp_eq (kd162 rfl) rfl (fun c => ?_) (fun c => ?_)
          · have h := h.1 c
            exact (b_Mod_isGood_83 hd h).less (e_sc (List.mem_of_getElem? (i := 1) rfl) (e_sc (List.mem_of_getElem? (i := 2) rfl) (e_sc (List.mem_of_getElem? (i := 3) rfl) (e_sc (List.mem_of_getElem? (i := 5) rfl) (e_sc (List.mem_of_getElem? (i := 0) rfl) e_sn)))))
          · have h := h.2 c
            refine r_iconst (kd162 rfl) (y := 0) (by decide) rfl ?_
            exact r_zreturn (kd162 rfl) R162 h.1 h.2
set_option maxRecDepth 100000 in
def w_Mod_isGood (l0 : Nat) (l1 : Int32) (l2 : Int32) (M : eM) (Q : Int32 → eM → Prop) : Prop := e_ob M l0 12 ∧ w_Mod_longOf l0 l1 l2 M (fun (v2 : Int32) (M1 : eM) => (¬ v2 = (-1) → e_ob M1 l0 12 ∧ w_Mod_byteAt l0 l1 l2 M1 (fun (v4 : Int32) (M3 : eM) => (v2 ≤ 1 → w_Mod_isGood_39 l0 l1 l2 v2 v4 0 M3 Q) ∧ (¬ v2 ≤ 1 → e_ob M3 l0 12 ∧ w_Mod_byteAt l0 l1 (l2 + 1) M3 (fun (v6 : Int32) (M5 : eM) => w_Mod_isGood_39 l0 l1 l2 v2 v4 v6 M5 Q)))) ∧ (v2 = (-1) → ((0 : Int32) = 0 ∨ (0 : Int32) = 1) ∧ Q (0 : Int32) M1))
set_option maxRecDepth 100000 in
theorem b_Mod_isGood {d : Nat} {l0 : Nat} {l1 : Int32} {l2 : Int32} {M : eM} {Q : Int32 → eM → Prop} (hd : 2 ≤ d) (h : w_Mod_isGood l0 l1 l2 M Q) : e_CI 162 d 0 0 [.ref l0, .int l1, .int l2] M Q := by
  unfold w_Mod_isGood at h
  show e_E 162 d 0 0 0 [(0, .ref l0), (1, .int l1), (2, .int l2)] [] M (e_QI Q)
  refine r_aload_n (kd162 rfl) rfl rfl ?_
  refine r_iload_n (kd162 rfl) rfl rfl ?_
  refine r_iload_n (kd162 rfl) rfl rfl ?_
  obtain ⟨g, h⟩ := h
  refine r_callVI (d' := d - 1) (by omega) (kd162 rfl) (by decide) rfl rfl rfl rfl (Nat.le_of_ble_eq_true rfl) rfl L159 (Nat.le_of_ble_eq_true rfl) (Nat.le_of_ble_eq_true rfl) g (Nat.zero_le _) (Nat.zero_le _) rfl rfl rfl (b_Mod_longOf (by omega) h) (fun x1 M1 h => ?_)
  refine r_istore_n (kd162 rfl) L162 (by decide) rfl rfl ?_
  refine r_iload_n (kd162 rfl) rfl rfl ?_
  refine r_iconst (kd162 rfl) (y := (-1)) (by decide) rfl ?_
  refine r_icmp_ne (kd162 rfl) rfl (fun c => ?_) (fun c => ?_)
  · have h := h.1 c
    refine r_aload_n (kd162 rfl) rfl rfl ?_
    refine r_iload_n (kd162 rfl) rfl rfl ?_
    refine r_iload_n (kd162 rfl) rfl rfl ?_
    obtain ⟨g, h⟩ := h
    refine r_callVI (d' := d - 1) (by omega) (kd162 rfl) (by decide) rfl rfl rfl rfl (Nat.le_of_ble_eq_true rfl) rfl L158 (Nat.le_of_ble_eq_true rfl) (Nat.le_of_ble_eq_true rfl) g (Nat.zero_le _) (Nat.zero_le _) rfl rfl rfl (b_Mod_byteAt (by omega) h) (fun x1 M1 h => ?_)
    refine r_istore (kd162 rfl) L162 (by decide) rfl rfl ?_
    refine r_iload_n (kd162 rfl) rfl rfl ?_
    refine r_iconst (kd162 rfl) (y := 1) (by decide) rfl ?_
    refine r_icmp_le (kd162 rfl) rfl (fun c => ?_) (fun c => ?_)
    · have h := h.1 c
      refine r_iconst (kd162 rfl) (y := 0) (by decide) rfl ?_
      exact (b_Mod_isGood_39 hd h).less (e_sc (List.mem_of_getElem? (i := 2) rfl) (e_sc (List.mem_of_getElem? (i := 3) rfl) (e_sc (List.mem_of_getElem? (i := 4) rfl) (e_sc (List.mem_of_getElem? (i := 1) rfl) (e_sc (List.mem_of_getElem? (i := 0) rfl) e_sn)))))
    · have h := h.2 c
      refine r_aload_n (kd162 rfl) rfl rfl ?_
      refine r_iload_n (kd162 rfl) rfl rfl ?_
      refine r_iload_n (kd162 rfl) rfl rfl ?_
      refine r_iconst (kd162 rfl) (y := 1) (by decide) rfl ?_
      refine r_iadd (kd162 rfl) rfl ?_
      obtain ⟨g, h⟩ := h
      refine r_callVI (d' := d - 1) (by omega) (kd162 rfl) (by decide) rfl rfl rfl rfl (Nat.le_of_ble_eq_true rfl) rfl L158 (Nat.le_of_ble_eq_true rfl) (Nat.le_of_ble_eq_true rfl) g (Nat.zero_le _) (Nat.zero_le _) rfl rfl rfl (b_Mod_byteAt (by omega) h) (fun x1 M1 h => ?_)
      refine r_goto (kd162 rfl) ?_
      exact (b_Mod_isGood_39 hd h).less (e_sc (List.mem_of_getElem? (i := 2) rfl) (e_sc (List.mem_of_getElem? (i := 3) rfl) (e_sc (List.mem_of_getElem? (i := 4) rfl) (e_sc (List.mem_of_getElem? (i := 1) rfl) (e_sc (List.mem_of_getElem? (i := 0) rfl) e_sn)))))
  · have h := h.2 c
    refine r_iconst (kd162 rfl) (y := 0) (by decide) rfl ?_
    exact r_zreturn (kd162 rfl) R162 h.1 h.2
