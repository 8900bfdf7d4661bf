/-- TierMillLaw.law([I)Z -/
theorem kd84 {pc : Nat} {q : eI} (h : e_d84.lookup pc = some q) : e_dec 84 pc = some q := h
theorem L84 : (e_m 84).2.2.1 = 7 := rfl
theorem R84 : (e_m 84).2.2.2.1 = (some .boolean) := rfl
set_option maxRecDepth 100000 in
def w_Law_law_1023 (kc ks : Nat) (l0 : Nat) (l1 : Nat) (l2 : Nat) (l3 : Nat) (l4 : Int32) (M : eM) (Q : Int32 → eM → Prop) (k23 : Nat → Nat → Nat → Nat → Nat → Nat → Int32 → eM → Prop) : Prop := k23 kc ks l0 l1 l2 l3 (l4 + 5) M
set_option maxRecDepth 100000 in
theorem b_Law_law_1023 {am : eAm} {d : Nat} {kc ks : Nat} {l0 : Nat} {l1 : Nat} {l2 : Nat} {l3 : Nat} {l4 : Int32} {M : eM} {Q : Int32 → eM → Prop} {k23 : Nat → Nat → Nat → Nat → Nat → Nat → Int32 → eM → Prop} (hd : 50 ≤ d) (hk23 : ∀ (kc ks : Nat) (l0 : Nat) (l1 : Nat) (l2 : Nat) (l3 : Nat) (l4 : Int32) (M : eM), k23 kc ks l0 l1 l2 l3 l4 M → e_F am 84 d kc ks 23 [(0, .ref l0), (1, .ref l1), (2, .ref l2), (3, .ref l3), (4, .int l4)] [] M (e_QI Q)) (h : w_Law_law_1023 kc ks l0 l1 l2 l3 l4 M Q k23) : e_F am 84 d kc ks 1023 [(0, .ref l0), (1, .ref l1), (2, .ref l2), (3, .ref l3), (4, .int l4)] [] M (e_QI Q) := by
  unfold w_Law_law_1023 at h
  refine f_iinc (kd84 rfl) rfl (y := 5) (by decide) L84 (by decide) rfl rfl ?_
  refine f_goto (kd84 rfl) ?_
  exact (hk23 _ _ _ _ _ _ _ _ h).less (e_sc (List.mem_of_getElem? (i := 1) rfl) (e_sc (List.mem_of_getElem? (i := 2) rfl) (e_sc (List.mem_of_getElem? (i := 3) rfl) (e_sc (List.mem_of_getElem? (i := 4) rfl) (e_sc (List.mem_of_getElem? (i := 0) rfl) e_sn)))))
set_option maxRecDepth 100000 in
def w_Law_law_242 (kc ks : Nat) (l0 : Nat) (l1 : Nat) (l2 : Nat) (l3 : Nat) (l4 : Int32) (M : eM) (Q : Int32 → eM → Prop) (k23 : Nat → Nat → Nat → Nat → Nat → Nat → Int32 → eM → Prop) : Prop := w_Law_law_1023 kc ks l0 l1 l2 l3 l4 M Q k23
set_option maxRecDepth 100000 in
theorem b_Law_law_242 {am : eAm} {d : Nat} {kc ks : Nat} {l0 : Nat} {l1 : Nat} {l2 : Nat} {l3 : Nat} {l4 : Int32} {M : eM} {Q : Int32 → eM → Prop} {k23 : Nat → Nat → Nat → Nat → Nat → Nat → Int32 → eM → Prop} (hd : 50 ≤ d) (hk23 : ∀ (kc ks : Nat) (l0 : Nat) (l1 : Nat) (l2 : Nat) (l3 : Nat) (l4 : Int32) (M : eM), k23 kc ks l0 l1 l2 l3 l4 M → e_F am 84 d kc ks 23 [(0, .ref l0), (1, .ref l1), (2, .ref l2), (3, .ref l3), (4, .int l4)] [] M (e_QI Q)) (h : w_Law_law_242 kc ks l0 l1 l2 l3 l4 M Q k23) : e_F am 84 d kc ks 242 [(0, .ref l0), (1, .ref l1), (2, .ref l2), (3, .ref l3), (4, .int l4)] [] M (e_QI Q) := by
  unfold w_Law_law_242 at h
  refine f_goto (kd84 rfl) ?_
  exact (b_Law_law_1023 hd hk23 h).less (e_sc (List.mem_of_getElem? (i := 0) rfl) (e_sc (List.mem_of_getElem? (i := 1) rfl) (e_sc (List.mem_of_getElem? (i := 2) rfl) (e_sc (List.mem_of_getElem? (i := 3) rfl) (e_sc (List.mem_of_getElem? (i := 4) rfl) e_sn)))))
set_option maxRecDepth 100000 in
def w_Law_law_544 (kc ks : Nat) (l0 : Nat) (l1 : Nat) (l2 : Nat) (l3 : Nat) (l4 : Int32) (M : eM) (Q : Int32 → eM → Prop) (k23 : Nat → Nat → Nat → Nat → Nat → Nat → Int32 → eM → Prop) : Prop := w_Law_law_1023 kc ks l0 l1 l2 l3 l4 M Q k23
set_option maxRecDepth 100000 in
theorem b_Law_law_544 {am : eAm} {d : Nat} {kc ks : Nat} {l0 : Nat} {l1 : Nat} {l2 : Nat} {l3 : Nat} {l4 : Int32} {M : eM} {Q : Int32 → eM → Prop} {k23 : Nat → Nat → Nat → Nat → Nat → Nat → Int32 → eM → Prop} (hd : 50 ≤ d) (hk23 : ∀ (kc ks : Nat) (l0 : Nat) (l1 : Nat) (l2 : Nat) (l3 : Nat) (l4 : Int32) (M : eM), k23 kc ks l0 l1 l2 l3 l4 M → e_F am 84 d kc ks 23 [(0, .ref l0), (1, .ref l1), (2, .ref l2), (3, .ref l3), (4, .int l4)] [] M (e_QI Q)) (h : w_Law_law_544 kc ks l0 l1 l2 l3 l4 M Q k23) : e_F am 84 d kc ks 544 [(0, .ref l0), (1, .ref l1), (2, .ref l2), (3, .ref l3), (4, .int l4)] [] M (e_QI Q) := by
  unfold w_Law_law_544 at h
  refine f_goto (kd84 rfl) ?_
  exact (b_Law_law_1023 hd hk23 h).less (e_sc (List.mem_of_getElem? (i := 0) rfl) (e_sc (List.mem_of_getElem? (i := 1) rfl) (e_sc (List.mem_of_getElem? (i := 2) rfl) (e_sc (List.mem_of_getElem? (i := 3) rfl) (e_sc (List.mem_of_getElem? (i := 4) rfl) e_sn)))))
set_option maxRecDepth 100000 in
def w_Law_law_638 (kc ks : Nat) (l0 : Nat) (l1 : Nat) (l2 : Nat) (l3 : Nat) (l4 : Int32) (M : eM) (Q : Int32 → eM → Prop) (k23 : Nat → Nat → Nat → Nat → Nat → Nat → Int32 → eM → Prop) : Prop := w_Law_law_1023 kc ks l0 l1 l2 l3 l4 M Q k23
set_option maxRecDepth 100000 in
theorem b_Law_law_638 {am : eAm} {d : Nat} {kc ks : Nat} {l0 : Nat} {l1 : Nat} {l2 : Nat} {l3 : Nat} {l4 : Int32} {M : eM} {Q : Int32 → eM → Prop} {k23 : Nat → Nat → Nat → Nat → Nat → Nat → Int32 → eM → Prop} (hd : 50 ≤ d) (hk23 : ∀ (kc ks : Nat) (l0 : Nat) (l1 : Nat) (l2 : Nat) (l3 : Nat) (l4 : Int32) (M : eM), k23 kc ks l0 l1 l2 l3 l4 M → e_F am 84 d kc ks 23 [(0, .ref l0), (1, .ref l1), (2, .ref l2), (3, .ref l3), (4, .int l4)] [] M (e_QI Q)) (h : w_Law_law_638 kc ks l0 l1 l2 l3 l4 M Q k23) : e_F am 84 d kc ks 638 [(0, .ref l0), (1, .ref l1), (2, .ref l2), (3, .ref l3), (4, .int l4)] [] M (e_QI Q) := by
  unfold w_Law_law_638 at h
  refine f_goto (kd84 rfl) ?_
  exact (b_Law_law_1023 hd hk23 h).less (e_sc (List.mem_of_getElem? (i := 0) rfl) (e_sc (List.mem_of_getElem? (i := 1) rfl) (e_sc (List.mem_of_getElem? (i := 2) rfl) (e_sc (List.mem_of_getElem? (i := 3) rfl) (e_sc (List.mem_of_getElem? (i := 4) rfl) e_sn)))))
set_option maxRecDepth 100000 in
def w_Law_law_743 (kc ks : Nat) (l0 : Nat) (l1 : Nat) (l2 : Nat) (l3 : Nat) (l4 : Int32) (M : eM) (Q : Int32 → eM → Prop) (k23 : Nat → Nat → Nat → Nat → Nat → Nat → Int32 → eM → Prop) : Prop := w_Law_law_1023 kc ks l0 l1 l2 l3 l4 M Q k23
set_option maxRecDepth 100000 in
theorem b_Law_law_743 {am : eAm} {d : Nat} {kc ks : Nat} {l0 : Nat} {l1 : Nat} {l2 : Nat} {l3 : Nat} {l4 : Int32} {M : eM} {Q : Int32 → eM → Prop} {k23 : Nat → Nat → Nat → Nat → Nat → Nat → Int32 → eM → Prop} (hd : 50 ≤ d) (hk23 : ∀ (kc ks : Nat) (l0 : Nat) (l1 : Nat) (l2 : Nat) (l3 : Nat) (l4 : Int32) (M : eM), k23 kc ks l0 l1 l2 l3 l4 M → e_F am 84 d kc ks 23 [(0, .ref l0), (1, .ref l1), (2, .ref l2), (3, .ref l3), (4, .int l4)] [] M (e_QI Q)) (h : w_Law_law_743 kc ks l0 l1 l2 l3 l4 M Q k23) : e_F am 84 d kc ks 743 [(0, .ref l0), (1, .ref l1), (2, .ref l2), (3, .ref l3), (4, .int l4)] [] M (e_QI Q) := by
  unfold w_Law_law_743 at h
  refine f_goto (kd84 rfl) ?_
  exact (b_Law_law_1023 hd hk23 h).less (e_sc (List.mem_of_getElem? (i := 0) rfl) (e_sc (List.mem_of_getElem? (i := 1) rfl) (e_sc (List.mem_of_getElem? (i := 2) rfl) (e_sc (List.mem_of_getElem? (i := 3) rfl) (e_sc (List.mem_of_getElem? (i := 4) rfl) e_sn)))))
set_option maxRecDepth 100000 in
def w_Law_law_823 (kc ks : Nat) (l0 : Nat) (l1 : Nat) (l2 : Nat) (l3 : Nat) (l4 : Int32) (M : eM) (Q : Int32 → eM → Prop) (k23 : Nat → Nat → Nat → Nat → Nat → Nat → Int32 → eM → Prop) : Prop := w_Law_law_1023 kc ks l0 l1 l2 l3 l4 M Q k23
set_option maxRecDepth 100000 in
theorem b_Law_law_823 {am : eAm} {d : Nat} {kc ks : Nat} {l0 : Nat} {l1 : Nat} {l2 : Nat} {l3 : Nat} {l4 : Int32} {M : eM} {Q : Int32 → eM → Prop} {k23 : Nat → Nat → Nat → Nat → Nat → Nat → Int32 → eM → Prop} (hd : 50 ≤ d) (hk23 : ∀ (kc ks : Nat) (l0 : Nat) (l1 : Nat) (l2 : Nat) (l3 : Nat) (l4 : Int32) (M : eM), k23 kc ks l0 l1 l2 l3 l4 M → e_F am 84 d kc ks 23 [(0, .ref l0), (1, .ref l1), (2, .ref l2), (3, .ref l3), (4, .int l4)] [] M (e_QI Q)) (h : w_Law_law_823 kc ks l0 l1 l2 l3 l4 M Q k23) : e_F am 84 d kc ks 823 [(0, .ref l0), (1, .ref l1), (2, .ref l2), (3, .ref l3), (4, .int l4)] [] M (e_QI Q) := by
  unfold w_Law_law_823 at h
  refine f_goto (kd84 rfl) ?_
  exact (b_Law_law_1023 hd hk23 h).less (e_sc (List.mem_of_getElem? (i := 0) rfl) (e_sc (List.mem_of_getElem? (i := 1) rfl) (e_sc (List.mem_of_getElem? (i := 2) rfl) (e_sc (List.mem_of_getElem? (i := 3) rfl) (e_sc (List.mem_of_getElem? (i := 4) rfl) e_sn)))))
set_option maxRecDepth 100000 in
def w_Law_law_23 : Nat → Nat → Nat → Nat → Nat → Nat → Nat → Int32 → eM → (Int32 → eM → Prop) → Prop
  | 0, _, _, _, _, _, _, _, _, _ => False
  | n + 1, kc, ks, l0, l1, l2, l3, l4, M, Q => ((0 < l0 ∧ l0 < M.1 ∧ gt M l0 = 20) ∨ (e_c0 ≤ l0 ∧ l0 < M.1 ∧ 20 ≤ gt M l0 ∧ gt M l0 ≤ 24)) ∧ (((Int32.ofNat (gn M l0)) - 5) < l4 → ((1 : Int32) = 0 ∨ (1 : Int32) = 1) ∧ Q (1 : Int32) M) ∧ (¬ ((Int32.ofNat (gn M l0)) - 5) < l4 → e_ai M l0 l4 ∧ (((gi M l0 l4.toNatClampNeg) &&& 31) = 0 → e_ai M l0 (l4 + 1) ∧ e_ai M l0 (l4 + 2) ∧ e_ai M l0 (l4 + 3) ∧ e_ob M l1 11 ∧ w_Mill_put l1 ((((gi M l0 (l4 + 1).toNatClampNeg).toInt64) <<< ((32 : Int32).toInt64 &&& 63)) ||| (((gi M l0 (l4 + 2).toNatClampNeg).toInt64) &&& 4294967295)) (gi M l0 (l4 + 3).toNatClampNeg) M (fun (v12 : Int32) (M11 : eM) => e_ai M11 l0 (l4 + 1) ∧ e_ai M11 l0 (l4 + 2) ∧ e_ai M11 l0 (l4 + 3) ∧ e_ob M11 l2 12 ∧ w_Mod_put l2 ((((gi M11 l0 (l4 + 1).toNatClampNeg).toInt64) <<< ((32 : Int32).toInt64 &&& 63)) ||| (((gi M11 l0 (l4 + 2).toNatClampNeg).toInt64) &&& 4294967295)) (gi M11 l0 (l4 + 3).toNatClampNeg) M11 (fun (v14 : Int32) (M13 : eM) => (v12 = v14 → w_Law_law_1023 kc ks l0 l1 l2 l3 l4 M13 Q (fun kc ks l0 l1 l2 l3 l4 M => w_Law_law_23 n kc ks l0 l1 l2 l3 l4 M Q )) ∧ (¬ v12 = v14 → ((0 : Int32) = 0 ∨ (0 : Int32) = 1) ∧ Q (0 : Int32) M13)))) ∧ (¬ ((gi M l0 l4.toNatClampNeg) &&& 31) = 0 → (((gi M l0 l4.toNatClampNeg) &&& 31) = 1 → ∃ kc16 ks17 : Nat, kc16 ≤ kc ∧ ks17 ≤ ks ∧ w_Law_load kc16 ks17 l1 l3 M (fun (v18 : Int32) (M15 : eM) => e_ob M15 l2 12 ∧ w_Mod_load l2 M15 (fun (v20 : Int32) (M19 : eM) => e_ob M19 l2 12 ∧ w_Mod_thrown l2 M19 (fun (v22 : Int32) (M21 : eM) => (v22 = v18 → (¬ v18 = 0 → w_Law_law_242 (kc - kc16) (ks - ks17) l0 l1 l2 l3 l4 M21 Q (fun kc ks l0 l1 l2 l3 l4 M => w_Law_law_23 n kc ks l0 l1 l2 l3 l4 M Q )) ∧ (v18 = 0 → e_ar M21 l3 21 0 ∧ ((lg_cmp (gl M21 l3 (0 : Int32).toNatClampNeg) (v20.toInt64)) = 0 → w_Law_law_242 (kc - kc16) (ks - ks17) l0 l1 l2 l3 l4 M21 Q (fun kc ks l0 l1 l2 l3 l4 M => w_Law_law_23 n kc ks l0 l1 l2 l3 l4 M Q )) ∧ (¬ (lg_cmp (gl M21 l3 (0 : Int32).toNatClampNeg) (v20.toInt64)) = 0 → ((0 : Int32) = 0 ∨ (0 : Int32) = 1) ∧ Q (0 : Int32) M21))) ∧ (¬ v22 = v18 → ((0 : Int32) = 0 ∨ (0 : Int32) = 1) ∧ Q (0 : Int32) M21))))) ∧ (¬ ((gi M l0 l4.toNatClampNeg) &&& 31) = 1 → (((gi M l0 l4.toNatClampNeg) &&& 31) = 2 → e_ai M l0 (l4 + 1) ∧ e_ob M l1 11 ∧ w_Mill_fault l1 (gi M l0 (l4 + 1).toNatClampNeg) M (fun (v24 : Int32) (M23 : eM) => e_ai M23 l0 (l4 + 1) ∧ e_ob M23 l2 12 ∧ w_Mod_fault l2 (gi M23 l0 (l4 + 1).toNatClampNeg) M23 (fun (v26 : Int32) (M25 : eM) => (v24 = v26 → w_Law_law_1023 kc ks l0 l1 l2 l3 l4 M25 Q (fun kc ks l0 l1 l2 l3 l4 M => w_Law_law_23 n kc ks l0 l1 l2 l3 l4 M Q )) ∧ (¬ v24 = v26 → ((0 : Int32) = 0 ∨ (0 : Int32) = 1) ∧ Q (0 : Int32) M25)))) ∧ (¬ ((gi M l0 l4.toNatClampNeg) &&& 31) = 2 → (((gi M l0 l4.toNatClampNeg) &&& 31) = 3 → e_ai M l0 (l4 + 1) ∧ e_ai M l0 (l4 + 2) ∧ e_ai M l0 (l4 + 3) ∧ e_ob M l1 11 ∧ w_Mill_kind l1 (gi M l0 (l4 + 1).toNatClampNeg) (gi M l0 (l4 + 2).toNatClampNeg) (gi M l0 (l4 + 3).toNatClampNeg) M (fun (v28 : Int32) (M27 : eM) => e_ai M27 l0 (l4 + 1) ∧ e_ai M27 l0 (l4 + 2) ∧ e_ai M27 l0 (l4 + 3) ∧ e_ob M27 l2 12 ∧ w_Mod_kind l2 (gi M27 l0 (l4 + 1).toNatClampNeg) (gi M27 l0 (l4 + 2).toNatClampNeg) (gi M27 l0 (l4 + 3).toNatClampNeg) M27 (fun (v30 : Int32) (M29 : eM) => (v28 = v30 → w_Law_law_1023 kc ks l0 l1 l2 l3 l4 M29 Q (fun kc ks l0 l1 l2 l3 l4 M => w_Law_law_23 n kc ks l0 l1 l2 l3 l4 M Q )) ∧ (¬ v28 = v30 → ((0 : Int32) = 0 ∨ (0 : Int32) = 1) ∧ Q (0 : Int32) M29)))) ∧ (¬ ((gi M l0 l4.toNatClampNeg) &&& 31) = 3 → (((gi M l0 l4.toNatClampNeg) &&& 31) = 4 → e_ai M l0 (l4 + 1) ∧ e_ai M l0 (l4 + 2) ∧ e_ai M l0 (l4 + 3) ∧ e_ai M l0 (l4 + 4) ∧ e_ob M l1 11 ∧ w_Mill_tiers l1 (gi M l0 (l4 + 1).toNatClampNeg) (gi M l0 (l4 + 2).toNatClampNeg) (gi M l0 (l4 + 3).toNatClampNeg) (gi M l0 (l4 + 4).toNatClampNeg) M (fun (v32 : Int32) (M31 : eM) => e_ai M31 l0 (l4 + 1) ∧ e_ai M31 l0 (l4 + 2) ∧ e_ai M31 l0 (l4 + 3) ∧ e_ai M31 l0 (l4 + 4) ∧ e_ob M31 l2 12 ∧ w_Mod_tiers l2 (gi M31 l0 (l4 + 1).toNatClampNeg) (gi M31 l0 (l4 + 2).toNatClampNeg) (gi M31 l0 (l4 + 3).toNatClampNeg) (gi M31 l0 (l4 + 4).toNatClampNeg) M31 (fun (v34 : Int32) (M33 : eM) => (v32 = v34 → w_Law_law_1023 kc ks l0 l1 l2 l3 l4 M33 Q (fun kc ks l0 l1 l2 l3 l4 M => w_Law_law_23 n kc ks l0 l1 l2 l3 l4 M Q )) ∧ (¬ v32 = v34 → ((0 : Int32) = 0 ∨ (0 : Int32) = 1) ∧ Q (0 : Int32) M33)))) ∧ (¬ ((gi M l0 l4.toNatClampNeg) &&& 31) = 4 → (((gi M l0 l4.toNatClampNeg) &&& 31) = 5 → e_ai M l0 (l4 + 1) ∧ e_ob M l1 11 ∧ w_Mill_room l1 (gi M l0 (l4 + 1).toNatClampNeg) M (fun (v36 : Int32) (M35 : eM) => e_ai M35 l0 (l4 + 1) ∧ e_ob M35 l2 12 ∧ w_Mod_room l2 (gi M35 l0 (l4 + 1).toNatClampNeg) M35 (fun (v38 : Int32) (M37 : eM) => (v36 = v38 → w_Law_law_1023 kc ks l0 l1 l2 l3 l4 M37 Q (fun kc ks l0 l1 l2 l3 l4 M => w_Law_law_23 n kc ks l0 l1 l2 l3 l4 M Q )) ∧ (¬ v36 = v38 → ((0 : Int32) = 0 ∨ (0 : Int32) = 1) ∧ Q (0 : Int32) M37)))) ∧ (¬ ((gi M l0 l4.toNatClampNeg) &&& 31) = 5 → (((gi M l0 l4.toNatClampNeg) &&& 31) = 6 → e_ai M l0 (l4 + 1) ∧ e_ob M l1 11 ∧ w_Mill_give l1 (gi M l0 (l4 + 1).toNatClampNeg) M (fun (v40 : Int32) (M39 : eM) => e_ai M39 l0 (l4 + 1) ∧ e_ob M39 l2 12 ∧ w_Mod_give l2 (gi M39 l0 (l4 + 1).toNatClampNeg) M39 (fun (v42 : Int32) (M41 : eM) => (v40 = v42 → w_Law_law_1023 kc ks l0 l1 l2 l3 l4 M41 Q (fun kc ks l0 l1 l2 l3 l4 M => w_Law_law_23 n kc ks l0 l1 l2 l3 l4 M Q )) ∧ (¬ v40 = v42 → ((0 : Int32) = 0 ∨ (0 : Int32) = 1) ∧ Q (0 : Int32) M41)))) ∧ (¬ ((gi M l0 l4.toNatClampNeg) &&& 31) = 6 → (((gi M l0 l4.toNatClampNeg) &&& 31) = 7 → e_ai M l0 (l4 + 1) ∧ e_ai M l0 (l4 + 2) ∧ e_ai M l0 (l4 + 3) ∧ e_ai M l0 (l4 + 4) ∧ e_ob M l1 11 ∧ w_Mill_start l1 (gi M l0 (l4 + 1).toNatClampNeg) (gi M l0 (l4 + 2).toNatClampNeg) (gi M l0 (l4 + 3).toNatClampNeg) (gi M l0 (l4 + 4).toNatClampNeg) M (fun (v44 : Int32) (M43 : eM) => e_ai M43 l0 (l4 + 1) ∧ e_ai M43 l0 (l4 + 2) ∧ e_ai M43 l0 (l4 + 3) ∧ e_ai M43 l0 (l4 + 4) ∧ e_ob M43 l2 12 ∧ w_Mod_start l2 (gi M43 l0 (l4 + 1).toNatClampNeg) (gi M43 l0 (l4 + 2).toNatClampNeg) (gi M43 l0 (l4 + 3).toNatClampNeg) (gi M43 l0 (l4 + 4).toNatClampNeg) M43 (fun (v46 : Int32) (M45 : eM) => (v44 = v46 → w_Law_law_1023 kc ks l0 l1 l2 l3 l4 M45 Q (fun kc ks l0 l1 l2 l3 l4 M => w_Law_law_23 n kc ks l0 l1 l2 l3 l4 M Q )) ∧ (¬ v44 = v46 → ((0 : Int32) = 0 ∨ (0 : Int32) = 1) ∧ Q (0 : Int32) M45)))) ∧ (¬ ((gi M l0 l4.toNatClampNeg) &&& 31) = 7 → (((gi M l0 l4.toNatClampNeg) &&& 31) = 8 → e_ai M l0 (l4 + 1) ∧ ∃ kc48 ks49 : Nat, kc48 ≤ kc ∧ ks49 ≤ ks ∧ w_Law_run kc48 ks49 l1 (gi M l0 (l4 + 1).toNatClampNeg) l3 M (fun (v50 : Int32) (M47 : eM) => e_ai M47 l0 (l4 + 1) ∧ e_ob M47 l2 12 ∧ w_Mod_run l2 (gi M47 l0 (l4 + 1).toNatClampNeg) M47 (fun (v52 : Int32) (M51 : eM) => e_ob M51 l2 12 ∧ w_Mod_thrown l2 M51 (fun (v54 : Int32) (M53 : eM) => (v54 = v50 → (¬ v50 = 0 → w_Law_law_544 (kc - kc48) (ks - ks49) l0 l1 l2 l3 l4 M53 Q (fun kc ks l0 l1 l2 l3 l4 M => w_Law_law_23 n kc ks l0 l1 l2 l3 l4 M Q )) ∧ (v50 = 0 → e_ar M53 l3 21 0 ∧ ((lg_cmp (gl M53 l3 (0 : Int32).toNatClampNeg) (v52.toInt64)) = 0 → w_Law_law_544 (kc - kc48) (ks - ks49) l0 l1 l2 l3 l4 M53 Q (fun kc ks l0 l1 l2 l3 l4 M => w_Law_law_23 n kc ks l0 l1 l2 l3 l4 M Q )) ∧ (¬ (lg_cmp (gl M53 l3 (0 : Int32).toNatClampNeg) (v52.toInt64)) = 0 → ((0 : Int32) = 0 ∨ (0 : Int32) = 1) ∧ Q (0 : Int32) M53))) ∧ (¬ v54 = v50 → ((0 : Int32) = 0 ∨ (0 : Int32) = 1) ∧ Q (0 : Int32) M53))))) ∧ (¬ ((gi M l0 l4.toNatClampNeg) &&& 31) = 8 → (((gi M l0 l4.toNatClampNeg) &&& 31) = 9 → e_ob M l1 11 ∧ w_Mill_state l1 M (fun (v56 : Int32) (M55 : eM) => e_ob M55 l2 12 ∧ w_Mod_state l2 M55 (fun (v58 : Int32) (M57 : eM) => (v56 = v58 → w_Law_law_1023 kc ks l0 l1 l2 l3 l4 M57 Q (fun kc ks l0 l1 l2 l3 l4 M => w_Law_law_23 n kc ks l0 l1 l2 l3 l4 M Q )) ∧ (¬ v56 = v58 → ((0 : Int32) = 0 ∨ (0 : Int32) = 1) ∧ Q (0 : Int32) M57)))) ∧ (¬ ((gi M l0 l4.toNatClampNeg) &&& 31) = 9 → (((gi M l0 l4.toNatClampNeg) &&& 31) = 10 → e_ai M l0 (l4 + 1) ∧ e_ob M l1 11 ∧ w_Mill_result l1 (gi M l0 (l4 + 1).toNatClampNeg) M (fun (v60 : Int32) (M59 : eM) => e_ai M59 l0 (l4 + 1) ∧ e_ob M59 l2 12 ∧ w_Mod_result l2 (gi M59 l0 (l4 + 1).toNatClampNeg) M59 (fun (v62 : Int32) (M61 : eM) => (v60 = v62 → w_Law_law_1023 kc ks l0 l1 l2 l3 l4 M61 Q (fun kc ks l0 l1 l2 l3 l4 M => w_Law_law_23 n kc ks l0 l1 l2 l3 l4 M Q )) ∧ (¬ v60 = v62 → ((0 : Int32) = 0 ∨ (0 : Int32) = 1) ∧ Q (0 : Int32) M61)))) ∧ (¬ ((gi M l0 l4.toNatClampNeg) &&& 31) = 10 → (((gi M l0 l4.toNatClampNeg) &&& 31) = 11 → e_ai M l0 (l4 + 1) ∧ ∃ kc64 ks65 : Nat, kc64 ≤ kc ∧ ks65 ≤ ks ∧ w_Law_output kc64 ks65 l1 (gi M l0 (l4 + 1).toNatClampNeg) l3 M (fun (v66 : Int32) (M63 : eM) => e_ai M63 l0 (l4 + 1) ∧ e_ob M63 l2 12 ∧ w_Mod_output l2 (gi M63 l0 (l4 + 1).toNatClampNeg) M63 (fun (v68 : Int32) (M67 : eM) => e_ob M67 l2 12 ∧ w_Mod_thrown l2 M67 (fun (v70 : Int32) (M69 : eM) => (v70 = v66 → (¬ v66 = 0 → w_Law_law_638 (kc - kc64) (ks - ks65) l0 l1 l2 l3 l4 M69 Q (fun kc ks l0 l1 l2 l3 l4 M => w_Law_law_23 n kc ks l0 l1 l2 l3 l4 M Q )) ∧ (v66 = 0 → e_ar M69 l3 21 0 ∧ ((lg_cmp (gl M69 l3 (0 : Int32).toNatClampNeg) (v68.toInt64)) = 0 → w_Law_law_638 (kc - kc64) (ks - ks65) l0 l1 l2 l3 l4 M69 Q (fun kc ks l0 l1 l2 l3 l4 M => w_Law_law_23 n kc ks l0 l1 l2 l3 l4 M Q )) ∧ (¬ (lg_cmp (gl M69 l3 (0 : Int32).toNatClampNeg) (v68.toInt64)) = 0 → ((0 : Int32) = 0 ∨ (0 : Int32) = 1) ∧ Q (0 : Int32) M69))) ∧ (¬ v70 = v66 → ((0 : Int32) = 0 ∨ (0 : Int32) = 1) ∧ Q (0 : Int32) M69))))) ∧ (¬ ((gi M l0 l4.toNatClampNeg) &&& 31) = 11 → (((gi M l0 l4.toNatClampNeg) &&& 31) = 12 → e_ai M l0 (l4 + 1) ∧ e_ai M l0 (l4 + 2) ∧ e_ob M l1 11 ∧ w_Mill_frame l1 (gi M l0 (l4 + 1).toNatClampNeg) (gi M l0 (l4 + 2).toNatClampNeg) M (fun (v72 : Int32) (M71 : eM) => e_ai M71 l0 (l4 + 1) ∧ e_ai M71 l0 (l4 + 2) ∧ e_ob M71 l2 12 ∧ w_Mod_frame l2 (gi M71 l0 (l4 + 1).toNatClampNeg) (gi M71 l0 (l4 + 2).toNatClampNeg) M71 (fun (v74 : Int32) (M73 : eM) => (v72 = v74 → w_Law_law_1023 kc ks l0 l1 l2 l3 l4 M73 Q (fun kc ks l0 l1 l2 l3 l4 M => w_Law_law_23 n kc ks l0 l1 l2 l3 l4 M Q )) ∧ (¬ v72 = v74 → ((0 : Int32) = 0 ∨ (0 : Int32) = 1) ∧ Q (0 : Int32) M73)))) ∧ (¬ ((gi M l0 l4.toNatClampNeg) &&& 31) = 12 → (((gi M l0 l4.toNatClampNeg) &&& 31) = 13 → e_ai M l0 (l4 + 1) ∧ e_ai M l0 (l4 + 2) ∧ ∃ kc76 ks77 : Nat, kc76 ≤ kc ∧ ks77 ≤ ks ∧ w_Law_local kc76 ks77 l1 (gi M l0 (l4 + 1).toNatClampNeg) (gi M l0 (l4 + 2).toNatClampNeg) l3 M (fun (v78 : Int32) (M75 : eM) => e_ai M75 l0 (l4 + 1) ∧ e_ai M75 l0 (l4 + 2) ∧ e_ob M75 l2 12 ∧ w_Mod_local l2 (gi M75 l0 (l4 + 1).toNatClampNeg) (gi M75 l0 (l4 + 2).toNatClampNeg) M75 (fun (v80 : Int32) (M79 : eM) => e_ob M79 l2 12 ∧ w_Mod_thrown l2 M79 (fun (v82 : Int32) (M81 : eM) => (v82 = v78 → (¬ v78 = 0 → w_Law_law_743 (kc - kc76) (ks - ks77) l0 l1 l2 l3 l4 M81 Q (fun kc ks l0 l1 l2 l3 l4 M => w_Law_law_23 n kc ks l0 l1 l2 l3 l4 M Q )) ∧ (v78 = 0 → e_ar M81 l3 21 0 ∧ ((lg_cmp (gl M81 l3 (0 : Int32).toNatClampNeg) (v80.toInt64)) = 0 → w_Law_law_743 (kc - kc76) (ks - ks77) l0 l1 l2 l3 l4 M81 Q (fun kc ks l0 l1 l2 l3 l4 M => w_Law_law_23 n kc ks l0 l1 l2 l3 l4 M Q )) ∧ (¬ (lg_cmp (gl M81 l3 (0 : Int32).toNatClampNeg) (v80.toInt64)) = 0 → ((0 : Int32) = 0 ∨ (0 : Int32) = 1) ∧ Q (0 : Int32) M81))) ∧ (¬ v82 = v78 → ((0 : Int32) = 0 ∨ (0 : Int32) = 1) ∧ Q (0 : Int32) M81))))) ∧ (¬ ((gi M l0 l4.toNatClampNeg) &&& 31) = 13 → (((gi M l0 l4.toNatClampNeg) &&& 31) = 14 → e_ai M l0 (l4 + 1) ∧ e_ai M l0 (l4 + 2) ∧ e_ai M l0 (l4 + 3) ∧ ∃ kc84 ks85 : Nat, kc84 ≤ kc ∧ ks85 ≤ ks ∧ w_Law_part kc84 ks85 l1 (gi M l0 (l4 + 1).toNatClampNeg) (gi M l0 (l4 + 2).toNatClampNeg) (gi M l0 (l4 + 3).toNatClampNeg) l3 M (fun (v86 : Int32) (M83 : eM) => e_ai M83 l0 (l4 + 1) ∧ e_ai M83 l0 (l4 + 2) ∧ e_ai M83 l0 (l4 + 3) ∧ e_ob M83 l2 12 ∧ w_Mod_part l2 (gi M83 l0 (l4 + 1).toNatClampNeg) (gi M83 l0 (l4 + 2).toNatClampNeg) (gi M83 l0 (l4 + 3).toNatClampNeg) M83 (fun (v88 : Int32) (M87 : eM) => e_ob M87 l2 12 ∧ w_Mod_thrown l2 M87 (fun (v90 : Int32) (M89 : eM) => (v90 = v86 → (¬ v86 = 0 → w_Law_law_823 (kc - kc84) (ks - ks85) l0 l1 l2 l3 l4 M89 Q (fun kc ks l0 l1 l2 l3 l4 M => w_Law_law_23 n kc ks l0 l1 l2 l3 l4 M Q )) ∧ (v86 = 0 → e_ar M89 l3 21 0 ∧ ((lg_cmp (gl M89 l3 (0 : Int32).toNatClampNeg) (v88.toInt64)) = 0 → w_Law_law_823 (kc - kc84) (ks - ks85) l0 l1 l2 l3 l4 M89 Q (fun kc ks l0 l1 l2 l3 l4 M => w_Law_law_23 n kc ks l0 l1 l2 l3 l4 M Q )) ∧ (¬ (lg_cmp (gl M89 l3 (0 : Int32).toNatClampNeg) (v88.toInt64)) = 0 → ((0 : Int32) = 0 ∨ (0 : Int32) = 1) ∧ Q (0 : Int32) M89))) ∧ (¬ v90 = v86 → ((0 : Int32) = 0 ∨ (0 : Int32) = 1) ∧ Q (0 : Int32) M89))))) ∧ (¬ ((gi M l0 l4.toNatClampNeg) &&& 31) = 14 → (((gi M l0 l4.toNatClampNeg) &&& 31) = 15 → e_ai M l0 (l4 + 1) ∧ e_ai M l0 (l4 + 2) ∧ e_ob M l1 11 ∧ w_Mill_method l1 (gi M l0 (l4 + 1).toNatClampNeg) (gi M l0 (l4 + 2).toNatClampNeg) M (fun (v92 : Int32) (M91 : eM) => e_ai M91 l0 (l4 + 1) ∧ e_ai M91 l0 (l4 + 2) ∧ e_ob M91 l2 12 ∧ w_Mod_method l2 (gi M91 l0 (l4 + 1).toNatClampNeg) (gi M91 l0 (l4 + 2).toNatClampNeg) M91 (fun (v94 : Int32) (M93 : eM) => (v92 = v94 → w_Law_law_1023 kc ks l0 l1 l2 l3 l4 M93 Q (fun kc ks l0 l1 l2 l3 l4 M => w_Law_law_23 n kc ks l0 l1 l2 l3 l4 M Q )) ∧ (¬ v92 = v94 → ((0 : Int32) = 0 ∨ (0 : Int32) = 1) ∧ Q (0 : Int32) M93)))) ∧ (¬ ((gi M l0 l4.toNatClampNeg) &&& 31) = 15 → (((gi M l0 l4.toNatClampNeg) &&& 31) = 16 → e_ai M l0 (l4 + 1) ∧ e_ai M l0 (l4 + 2) ∧ e_ai M l0 (l4 + 3) ∧ e_ob M l1 11 ∧ w_Mill_inlined l1 (gi M l0 (l4 + 1).toNatClampNeg) (gi M l0 (l4 + 2).toNatClampNeg) (gi M l0 (l4 + 3).toNatClampNeg) M (fun (v96 : Int32) (M95 : eM) => e_ai M95 l0 (l4 + 1) ∧ e_ai M95 l0 (l4 + 2) ∧ e_ai M95 l0 (l4 + 3) ∧ e_ob M95 l2 12 ∧ w_Mod_inlined l2 (gi M95 l0 (l4 + 1).toNatClampNeg) (gi M95 l0 (l4 + 2).toNatClampNeg) (gi M95 l0 (l4 + 3).toNatClampNeg) M95 (fun (v98 : Int32) (M97 : eM) => (v96 = v98 → w_Law_law_1023 kc ks l0 l1 l2 l3 l4 M97 Q (fun kc ks l0 l1 l2 l3 l4 M => w_Law_law_23 n kc ks l0 l1 l2 l3 l4 M Q )) ∧ (¬ v96 = v98 → ((0 : Int32) = 0 ∨ (0 : Int32) = 1) ∧ Q (0 : Int32) M97)))) ∧ (¬ ((gi M l0 l4.toNatClampNeg) &&& 31) = 16 → (((gi M l0 l4.toNatClampNeg) &&& 31) = 17 → e_ai M l0 (l4 + 1) ∧ e_ai M l0 (l4 + 2) ∧ e_ai M l0 (l4 + 3) ∧ e_ob M l1 11 ∧ w_Mill_profile l1 (gi M l0 (l4 + 1).toNatClampNeg) (gi M l0 (l4 + 2).toNatClampNeg) (gi M l0 (l4 + 3).toNatClampNeg) M (fun (v100 : Int32) (M99 : eM) => e_ai M99 l0 (l4 + 1) ∧ e_ai M99 l0 (l4 + 2) ∧ e_ai M99 l0 (l4 + 3) ∧ e_ob M99 l2 12 ∧ w_Mod_profile l2 (gi M99 l0 (l4 + 1).toNatClampNeg) (gi M99 l0 (l4 + 2).toNatClampNeg) (gi M99 l0 (l4 + 3).toNatClampNeg) M99 (fun (v102 : Int32) (M101 : eM) => (v100 = v102 → w_Law_law_1023 kc ks l0 l1 l2 l3 l4 M101 Q (fun kc ks l0 l1 l2 l3 l4 M => w_Law_law_23 n kc ks l0 l1 l2 l3 l4 M Q )) ∧ (¬ v100 = v102 → ((0 : Int32) = 0 ∨ (0 : Int32) = 1) ∧ Q (0 : Int32) M101)))) ∧ (¬ ((gi M l0 l4.toNatClampNeg) &&& 31) = 17 → (((gi M l0 l4.toNatClampNeg) &&& 31) = 18 → e_ai M l0 (l4 + 1) ∧ e_ai M l0 (l4 + 2) ∧ e_ob M l1 11 ∧ w_Mill_log l1 (gi M l0 (l4 + 1).toNatClampNeg) (gi M l0 (l4 + 2).toNatClampNeg) M (fun (v104 : Int32) (M103 : eM) => e_ai M103 l0 (l4 + 1) ∧ e_ai M103 l0 (l4 + 2) ∧ e_ob M103 l2 12 ∧ w_Mod_log l2 (gi M103 l0 (l4 + 1).toNatClampNeg) (gi M103 l0 (l4 + 2).toNatClampNeg) M103 (fun (v106 : Int32) (M105 : eM) => (v104 = v106 → w_Law_law_1023 kc ks l0 l1 l2 l3 l4 M105 Q (fun kc ks l0 l1 l2 l3 l4 M => w_Law_law_23 n kc ks l0 l1 l2 l3 l4 M Q )) ∧ (¬ v104 = v106 → ((0 : Int32) = 0 ∨ (0 : Int32) = 1) ∧ Q (0 : Int32) M105)))) ∧ (¬ ((gi M l0 l4.toNatClampNeg) &&& 31) = 18 → (((gi M l0 l4.toNatClampNeg) &&& 31) = 19 → e_ai M l0 (l4 + 1) ∧ e_ob M l1 11 ∧ w_Mill_total l1 (gi M l0 (l4 + 1).toNatClampNeg) M (fun (v108 : Int32) (M107 : eM) => e_ai M107 l0 (l4 + 1) ∧ e_ob M107 l2 12 ∧ w_Mod_total l2 (gi M107 l0 (l4 + 1).toNatClampNeg) M107 (fun (v110 : Int32) (M109 : eM) => (v108 = v110 → w_Law_law_1023 kc ks l0 l1 l2 l3 l4 M109 Q (fun kc ks l0 l1 l2 l3 l4 M => w_Law_law_23 n kc ks l0 l1 l2 l3 l4 M Q )) ∧ (¬ v108 = v110 → ((0 : Int32) = 0 ∨ (0 : Int32) = 1) ∧ Q (0 : Int32) M109)))) ∧ (¬ ((gi M l0 l4.toNatClampNeg) &&& 31) = 19 → w_Law_law_1023 kc ks l0 l1 l2 l3 l4 M Q (fun kc ks l0 l1 l2 l3 l4 M => w_Law_law_23 n kc ks l0 l1 l2 l3 l4 M Q ))))))))))))))))))))))
set_option maxRecDepth 100000 in
theorem b_Law_law_23 {am : eAm} {d : Nat} {Q : Int32 → eM → Prop} (hd : 50 ≤ d) (n : Nat) : ∀ (kc ks : Nat) (l0 : Nat) (l1 : Nat) (l2 : Nat) (l3 : Nat) (l4 : Int32) (M : eM), w_Law_law_23 n kc ks l0 l1 l2 l3 l4 M Q → e_F am 84 d kc ks 23 [(0, .ref l0), (1, .ref l1), (2, .ref l2), (3, .ref l3), (4, .int l4)] [] M (e_QI Q) := by
  induction n with
  | zero => intro kc ks l0 l1 l2 l3 l4 M h; exact False.elim h
  | succ n ih =>
    intro kc ks l0 l1 l2 l3 l4 M h
    have hk23 := ih
    refine f_iload (kd84 rfl) rfl rfl ?_
    refine f_aload_n (kd84 rfl) rfl rfl ?_
    obtain ⟨g, h⟩ := h
    refine f_arraylength (kd84 rfl) g rfl ?_
    refine f_iconst (kd84 rfl) (y := 5) (by decide) rfl ?_
    refine f_isub (kd84 rfl) rfl ?_
    refine f_icmp_gt (kd84 rfl) rfl (fun c => ?_) (fun c => ?_)
    · have h := h.1 c
      refine f_iconst (kd84 rfl) (y := 1) (by decide) rfl ?_
      exact f_zreturn (kd84 rfl) R84 h.1 h.2
    · have h := h.2 c
      refine f_aload_n (kd84 rfl) rfl rfl ?_
      refine f_iload (kd84 rfl) rfl rfl ?_
      obtain ⟨g, h⟩ := h
      refine f_iaload (kd84 rfl) g rfl ?_
      refine f_bipush (kd84 rfl) (y := 31) (by decide) rfl ?_
      refine f_iand (kd84 rfl) rfl ?_
      refine f_tableswitch (kd84 rfl) (u := 1023) (qs := [(0, 132), (1, 201), (2, 245), (3, 270), (4, 319), (5, 380), (6, 405), (7, 430), (8, 491), (9, 547), (10, 560), (11, 585), (12, 641), (13, 678), (14, 746), (15, 826), (16, 863), (17, 912), (18, 961), (19, 998)]) rfl rfl rfl (by decide) ?_
      refine ⟨fun c => ?_, fun c => ?_⟩
      · have h := h.1 c
        refine f_aload_n (kd84 rfl) rfl rfl ?_
        refine f_aload_n (kd84 rfl) rfl rfl ?_
        refine f_iload (kd84 rfl) rfl rfl ?_
        refine f_iconst (kd84 rfl) (y := 1) (by decide) rfl ?_
        refine f_iadd (kd84 rfl) rfl ?_
        obtain ⟨g, h⟩ := h
        refine f_iaload (kd84 rfl) g rfl ?_
        refine f_i2l (kd84 rfl) rfl ?_
        refine f_bipush (kd84 rfl) (y := 32) (by decide) rfl ?_
        refine f_lshl (kd84 rfl) rfl ?_
        refine f_aload_n (kd84 rfl) rfl rfl ?_
        refine f_iload (kd84 rfl) rfl rfl ?_
        refine f_iconst (kd84 rfl) (y := 2) (by decide) rfl ?_
        refine f_iadd (kd84 rfl) rfl ?_
        obtain ⟨g, h⟩ := h
        refine f_iaload (kd84 rfl) g rfl ?_
        refine f_i2l (kd84 rfl) rfl ?_
        refine f_ldc2_w (kd84 rfl) (y := 4294967295) (by decide) rfl ?_
        refine f_land (kd84 rfl) rfl ?_
        refine f_lor (kd84 rfl) rfl ?_
        refine f_aload_n (kd84 rfl) rfl rfl ?_
        refine f_iload (kd84 rfl) rfl rfl ?_
        refine f_iconst (kd84 rfl) (y := 3) (by decide) rfl ?_
        refine f_iadd (kd84 rfl) rfl ?_
        obtain ⟨g, h⟩ := h
        refine f_iaload (kd84 rfl) g rfl ?_
        obtain ⟨g, h⟩ := h
        refine f_callVI (d' := d - 1) (by omega) (kd84 rfl) (by decide) rfl rfl rfl rfl (Nat.le_of_ble_eq_true rfl) rfl L25 (Nat.le_of_ble_eq_true rfl) (Nat.le_of_ble_eq_true rfl) g (Nat.zero_le _) (Nat.zero_le _) rfl rfl rfl (b_Mill_put (by omega) h) (fun x1 M1 h => ?_)
        refine f_aload_n (kd84 rfl) rfl rfl ?_
        refine f_aload_n (kd84 rfl) rfl rfl ?_
        refine f_iload (kd84 rfl) rfl rfl ?_
        refine f_iconst (kd84 rfl) (y := 1) (by decide) rfl ?_
        refine f_iadd (kd84 rfl) rfl ?_
        obtain ⟨g, h⟩ := h
        refine f_iaload (kd84 rfl) g rfl ?_
        refine f_i2l (kd84 rfl) rfl ?_
        refine f_bipush (kd84 rfl) (y := 32) (by decide) rfl ?_
        refine f_lshl (kd84 rfl) rfl ?_
        refine f_aload_n (kd84 rfl) rfl rfl ?_
        refine f_iload (kd84 rfl) rfl rfl ?_
        refine f_iconst (kd84 rfl) (y := 2) (by decide) rfl ?_
        refine f_iadd (kd84 rfl) rfl ?_
        obtain ⟨g, h⟩ := h
        refine f_iaload (kd84 rfl) g rfl ?_
        refine f_i2l (kd84 rfl) rfl ?_
        refine f_ldc2_w (kd84 rfl) (y := 4294967295) (by decide) rfl ?_
        refine f_land (kd84 rfl) rfl ?_
        refine f_lor (kd84 rfl) rfl ?_
        refine f_aload_n (kd84 rfl) rfl rfl ?_
        refine f_iload (kd84 rfl) rfl rfl ?_
        refine f_iconst (kd84 rfl) (y := 3) (by decide) rfl ?_
        refine f_iadd (kd84 rfl) rfl ?_
        obtain ⟨g, h⟩ := h
        refine f_iaload (kd84 rfl) g rfl ?_
        obtain ⟨g, h⟩ := h
        refine f_callVI (d' := d - 1) (by omega) (kd84 rfl) (by decide) rfl rfl rfl rfl (Nat.le_of_ble_eq_true rfl) rfl L51 (Nat.le_of_ble_eq_true rfl) (Nat.le_of_ble_eq_true rfl) g (Nat.zero_le _) (Nat.zero_le _) rfl rfl rfl (b_Mod_put (by omega) h) (fun x1 M1 h => ?_)
        refine f_icmp_eq (kd84 rfl) rfl (fun c => ?_) (fun c => ?_)
        · have h := h.1 c
          exact (b_Law_law_1023 hd hk23 h).less (e_sc (List.mem_of_getElem? (i := 0) rfl) (e_sc (List.mem_of_getElem? (i := 1) rfl) (e_sc (List.mem_of_getElem? (i := 2) rfl) (e_sc (List.mem_of_getElem? (i := 3) rfl) (e_sc (List.mem_of_getElem? (i := 4) rfl) e_sn)))))
        · have h := h.2 c
          refine f_iconst (kd84 rfl) (y := 0) (by decide) rfl ?_
          exact f_zreturn (kd84 rfl) R84 h.1 h.2
      have h := h.2 c
      refine ⟨fun c => ?_, fun c => ?_⟩
      · have h := h.1 c
        refine f_aload_n (kd84 rfl) rfl rfl ?_
        refine f_aload_n (kd84 rfl) rfl rfl ?_
        obtain ⟨mc, ms, q1, q2, h⟩ := h
        refine f_helpI (d' := d - 1) e_okL79 (by omega) (kd84 rfl) (by decide) rfl (Nat.le_of_ble_eq_true rfl) rfl L79 (Nat.le_of_ble_eq_true rfl) rfl (Nat.le_of_ble_eq_true rfl) q1 q2 rfl rfl rfl (b_Law_load (by omega) h) (fun x1 M1 h => ?_)
        refine f_istore (kd84 rfl) L84 (by decide) rfl rfl ?_
        refine f_aload_n (kd84 rfl) rfl rfl ?_
        obtain ⟨g, h⟩ := h
        refine f_callVI (d' := d - 1) (by omega) (kd84 rfl) (by decide) rfl rfl rfl rfl (Nat.le_of_ble_eq_true rfl) rfl L56 (Nat.le_of_ble_eq_true rfl) (Nat.le_of_ble_eq_true rfl) g (Nat.zero_le _) (Nat.zero_le _) rfl rfl rfl (b_Mod_load (by omega) h) (fun x1 M1 h => ?_)
        refine f_istore (kd84 rfl) L84 (by decide) rfl rfl ?_
        refine f_aload_n (kd84 rfl) rfl rfl ?_
        obtain ⟨g, h⟩ := h
        refine f_callVI (d' := d - 1) (by omega) (kd84 rfl) (by decide) rfl rfl rfl rfl (Nat.le_of_ble_eq_true rfl) rfl L48 (Nat.le_of_ble_eq_true rfl) (Nat.le_of_ble_eq_true rfl) g (Nat.zero_le _) (Nat.zero_le _) rfl rfl rfl (b_Mod_thrown (by omega) h) (fun x1 M1 h => ?_)
        refine f_iload (kd84 rfl) rfl rfl ?_
        refine f_icmp_eq (kd84 rfl) rfl (fun c => ?_) (fun c => ?_)
        · have h := h.1 c
          refine f_iload (kd84 rfl) rfl rfl ?_
          refine f_if_ne (kd84 rfl) rfl (fun c => ?_) (fun c => ?_)
          · have h := h.1 c
            exact (b_Law_law_242 hd hk23 h).less (e_sc (List.mem_of_getElem? (i := 2) rfl) (e_sc (List.mem_of_getElem? (i := 3) rfl) (e_sc (List.mem_of_getElem? (i := 4) rfl) (e_sc (List.mem_of_getElem? (i := 5) rfl) (e_sc (List.mem_of_getElem? (i := 6) rfl) e_sn)))))
          · have h := h.2 c
            refine f_aload_n (kd84 rfl) rfl rfl ?_
            refine f_iconst (kd84 rfl) (y := 0) (by decide) rfl ?_
            obtain ⟨g, h⟩ := h
            refine f_laload (kd84 rfl) g rfl ?_
            refine f_iload (kd84 rfl) rfl rfl ?_
            refine f_i2l (kd84 rfl) rfl ?_
            refine f_lcmp (kd84 rfl) rfl ?_
            refine f_if_eq (kd84 rfl) rfl (fun c => ?_) (fun c => ?_)
            · have h := h.1 c
              exact (b_Law_law_242 hd hk23 h).less (e_sc (List.mem_of_getElem? (i := 2) rfl) (e_sc (List.mem_of_getElem? (i := 3) rfl) (e_sc (List.mem_of_getElem? (i := 4) rfl) (e_sc (List.mem_of_getElem? (i := 5) rfl) (e_sc (List.mem_of_getElem? (i := 6) rfl) e_sn)))))
            · have h := h.2 c
              refine f_iconst (kd84 rfl) (y := 0) (by decide) rfl ?_
              exact f_zreturn (kd84 rfl) R84 h.1 h.2
        · have h := h.2 c
          refine f_iconst (kd84 rfl) (y := 0) (by decide) rfl ?_
          exact f_zreturn (kd84 rfl) R84 h.1 h.2
      have h := h.2 c
      refine ⟨fun c => ?_, fun c => ?_⟩
      · have h := h.1 c
        refine f_aload_n (kd84 rfl) rfl rfl ?_
        refine f_aload_n (kd84 rfl) rfl rfl ?_
        refine f_iload (kd84 rfl) rfl rfl ?_
        refine f_iconst (kd84 rfl) (y := 1) (by decide) rfl ?_
        refine f_iadd (kd84 rfl) rfl ?_
        obtain ⟨g, h⟩ := h
        refine f_iaload (kd84 rfl) g rfl ?_
        obtain ⟨g, h⟩ := h
        refine f_callVI (d' := d - 1) (by omega) (kd84 rfl) (by decide) rfl rfl rfl rfl (Nat.le_of_ble_eq_true rfl) rfl L28 (Nat.le_of_ble_eq_true rfl) (Nat.le_of_ble_eq_true rfl) g (Nat.zero_le _) (Nat.zero_le _) rfl rfl rfl (b_Mill_fault (by omega) h) (fun x1 M1 h => ?_)
        refine f_aload_n (kd84 rfl) rfl rfl ?_
        refine f_aload_n (kd84 rfl) rfl rfl ?_
        refine f_iload (kd84 rfl) rfl rfl ?_
        refine f_iconst (kd84 rfl) (y := 1) (by decide) rfl ?_
        refine f_iadd (kd84 rfl) rfl ?_
        obtain ⟨g, h⟩ := h
        refine f_iaload (kd84 rfl) g rfl ?_
        obtain ⟨g, h⟩ := h
        refine f_callVI (d' := d - 1) (by omega) (kd84 rfl) (by decide) rfl rfl rfl rfl (Nat.le_of_ble_eq_true rfl) rfl L57 (Nat.le_of_ble_eq_true rfl) (Nat.le_of_ble_eq_true rfl) g (Nat.zero_le _) (Nat.zero_le _) rfl rfl rfl (b_Mod_fault (by omega) h) (fun x1 M1 h => ?_)
        refine f_icmp_eq (kd84 rfl) rfl (fun c => ?_) (fun c => ?_)
        · have h := h.1 c
          exact (b_Law_law_1023 hd hk23 h).less (e_sc (List.mem_of_getElem? (i := 0) rfl) (e_sc (List.mem_of_getElem? (i := 1) rfl) (e_sc (List.mem_of_getElem? (i := 2) rfl) (e_sc (List.mem_of_getElem? (i := 3) rfl) (e_sc (List.mem_of_getElem? (i := 4) rfl) e_sn)))))
        · have h := h.2 c
          refine f_iconst (kd84 rfl) (y := 0) (by decide) rfl ?_
          exact f_zreturn (kd84 rfl) R84 h.1 h.2
      have h := h.2 c
      refine ⟨fun c => ?_, fun c => ?_⟩
      · have h := h.1 c
        refine f_aload_n (kd84 rfl) rfl rfl ?_
        refine f_aload_n (kd84 rfl) rfl rfl ?_
        refine f_iload (kd84 rfl) rfl rfl ?_
        refine f_iconst (kd84 rfl) (y := 1) (by decide) rfl ?_
        refine f_iadd (kd84 rfl) rfl ?_
        obtain ⟨g, h⟩ := h
        refine f_iaload (kd84 rfl) g rfl ?_
        refine f_aload_n (kd84 rfl) rfl rfl ?_
        refine f_iload (kd84 rfl) rfl rfl ?_
        refine f_iconst (kd84 rfl) (y := 2) (by decide) rfl ?_
        refine f_iadd (kd84 rfl) rfl ?_
        obtain ⟨g, h⟩ := h
        refine f_iaload (kd84 rfl) g rfl ?_
        refine f_aload_n (kd84 rfl) rfl rfl ?_
        refine f_iload (kd84 rfl) rfl rfl ?_
        refine f_iconst (kd84 rfl) (y := 3) (by decide) rfl ?_
        refine f_iadd (kd84 rfl) rfl ?_
        obtain ⟨g, h⟩ := h
        refine f_iaload (kd84 rfl) g rfl ?_
        obtain ⟨g, h⟩ := h
        refine f_callVI (d' := d - 1) (by omega) (kd84 rfl) (by decide) rfl rfl rfl rfl (Nat.le_of_ble_eq_true rfl) rfl L29 (Nat.le_of_ble_eq_true rfl) (Nat.le_of_ble_eq_true rfl) g (Nat.zero_le _) (Nat.zero_le _) rfl rfl rfl (b_Mill_kind (by omega) h) (fun x1 M1 h => ?_)
        refine f_aload_n (kd84 rfl) rfl rfl ?_
        refine f_aload_n (kd84 rfl) rfl rfl ?_
        refine f_iload (kd84 rfl) rfl rfl ?_
        refine f_iconst (kd84 rfl) (y := 1) (by decide) rfl ?_
        refine f_iadd (kd84 rfl) rfl ?_
        obtain ⟨g, h⟩ := h
        refine f_iaload (kd84 rfl) g rfl ?_
        refine f_aload_n (kd84 rfl) rfl rfl ?_
        refine f_iload (kd84 rfl) rfl rfl ?_
        refine f_iconst (kd84 rfl) (y := 2) (by decide) rfl ?_
        refine f_iadd (kd84 rfl) rfl ?_
        obtain ⟨g, h⟩ := h
        refine f_iaload (kd84 rfl) g rfl ?_
        refine f_aload_n (kd84 rfl) rfl rfl ?_
        refine f_iload (kd84 rfl) rfl rfl ?_
        refine f_iconst (kd84 rfl) (y := 3) (by decide) rfl ?_
        refine f_iadd (kd84 rfl) rfl ?_
        obtain ⟨g, h⟩ := h
        refine f_iaload (kd84 rfl) g rfl ?_
        obtain ⟨g, h⟩ := h
        refine f_callVI (d' := d - 1) (by omega) (kd84 rfl) (by decide) rfl rfl rfl rfl (Nat.le_of_ble_eq_true rfl) rfl L58 (Nat.le_of_ble_eq_true rfl) (Nat.le_of_ble_eq_true rfl) g (Nat.zero_le _) (Nat.zero_le _) rfl rfl rfl (b_Mod_kind (by omega) h) (fun x1 M1 h => ?_)
        refine f_icmp_eq (kd84 rfl) rfl (fun c => ?_) (fun c => ?_)
        · have h := h.1 c
          exact (b_Law_law_1023 hd hk23 h).less (e_sc (List.mem_of_getElem? (i := 0) rfl) (e_sc (List.mem_of_getElem? (i := 1) rfl) (e_sc (List.mem_of_getElem? (i := 2) rfl) (e_sc (List.mem_of_getElem? (i := 3) rfl) (e_sc (List.mem_of_getElem? (i := 4) rfl) e_sn)))))
        · have h := h.2 c
          refine f_iconst (kd84 rfl) (y := 0) (by decide) rfl ?_
          exact f_zreturn (kd84 rfl) R84 h.1 h.2
      have h := h.2 c
      refine ⟨fun c => ?_, fun c => ?_⟩
      · have h := h.1 c
        refine f_aload_n (kd84 rfl) rfl rfl ?_
        refine f_aload_n (kd84 rfl) rfl rfl ?_
        refine f_iload (kd84 rfl) rfl rfl ?_
        refine f_iconst (kd84 rfl) (y := 1) (by decide) rfl ?_
        refine f_iadd (kd84 rfl) rfl ?_
        obtain ⟨g, h⟩ := h
        refine f_iaload (kd84 rfl) g rfl ?_
        refine f_aload_n (kd84 rfl) rfl rfl ?_
        refine f_iload (kd84 rfl) rfl rfl ?_
        refine f_iconst (kd84 rfl) (y := 2) (by decide) rfl ?_
        refine f_iadd (kd84 rfl) rfl ?_
        obtain ⟨g, h⟩ := h
        refine f_iaload (kd84 rfl) g rfl ?_
        refine f_aload_n (kd84 rfl) rfl rfl ?_
        refine f_iload (kd84 rfl) rfl rfl ?_
        refine f_iconst (kd84 rfl) (y := 3) (by decide) rfl ?_
        refine f_iadd (kd84 rfl) rfl ?_
        obtain ⟨g, h⟩ := h
        refine f_iaload (kd84 rfl) g rfl ?_
        refine f_aload_n (kd84 rfl) rfl rfl ?_
        refine f_iload (kd84 rfl) rfl rfl ?_
        refine f_iconst (kd84 rfl) (y := 4) (by decide) rfl ?_
        refine f_iadd (kd84 rfl) rfl ?_
        obtain ⟨g, h⟩ := h
        refine f_iaload (kd84 rfl) g rfl ?_
        obtain ⟨g, h⟩ := h
        refine f_callVI (d' := d - 1) (by omega) (kd84 rfl) (by decide) rfl rfl rfl rfl (Nat.le_of_ble_eq_true rfl) rfl L30 (Nat.le_of_ble_eq_true rfl) (Nat.le_of_ble_eq_true rfl) g (Nat.zero_le _) (Nat.zero_le _) rfl rfl rfl (b_Mill_tiers (by omega) h) (fun x1 M1 h => ?_)
        refine f_aload_n (kd84 rfl) rfl rfl ?_
        refine f_aload_n (kd84 rfl) rfl rfl ?_
        refine f_iload (kd84 rfl) rfl rfl ?_
        refine f_iconst (kd84 rfl) (y := 1) (by decide) rfl ?_
        refine f_iadd (kd84 rfl) rfl ?_
        obtain ⟨g, h⟩ := h
        refine f_iaload (kd84 rfl) g rfl ?_
        refine f_aload_n (kd84 rfl) rfl rfl ?_
        refine f_iload (kd84 rfl) rfl rfl ?_
        refine f_iconst (kd84 rfl) (y := 2) (by decide) rfl ?_
        refine f_iadd (kd84 rfl) rfl ?_
        obtain ⟨g, h⟩ := h
        refine f_iaload (kd84 rfl) g rfl ?_
        refine f_aload_n (kd84 rfl) rfl rfl ?_
        refine f_iload (kd84 rfl) rfl rfl ?_
        refine f_iconst (kd84 rfl) (y := 3) (by decide) rfl ?_
        refine f_iadd (kd84 rfl) rfl ?_
        obtain ⟨g, h⟩ := h
        refine f_iaload (kd84 rfl) g rfl ?_
        refine f_aload_n (kd84 rfl) rfl rfl ?_
        refine f_iload (kd84 rfl) rfl rfl ?_
        refine f_iconst (kd84 rfl) (y := 4) (by decide) rfl ?_
        refine f_iadd (kd84 rfl) rfl ?_
        obtain ⟨g, h⟩ := h
        refine f_iaload (kd84 rfl) g rfl ?_
        obtain ⟨g, h⟩ := h
        refine f_callVI (d' := d - 1) (by omega) (kd84 rfl) (by decide) rfl rfl rfl rfl (Nat.le_of_ble_eq_true rfl) rfl L59 (Nat.le_of_ble_eq_true rfl) (Nat.le_of_ble_eq_true rfl) g (Nat.zero_le _) (Nat.zero_le _) rfl rfl rfl (b_Mod_tiers (by omega) h) (fun x1 M1 h => ?_)
        refine f_icmp_eq (kd84 rfl) rfl (fun c => ?_) (fun c => ?_)
        · have h := h.1 c
          exact (b_Law_law_1023 hd hk23 h).less (e_sc (List.mem_of_getElem? (i := 0) rfl) (e_sc (List.mem_of_getElem? (i := 1) rfl) (e_sc (List.mem_of_getElem? (i := 2) rfl) (e_sc (List.mem_of_getElem? (i := 3) rfl) (e_sc (List.mem_of_getElem? (i := 4) rfl) e_sn)))))
        · have h := h.2 c
          refine f_iconst (kd84 rfl) (y := 0) (by decide) rfl ?_
          exact f_zreturn (kd84 rfl) R84 h.1 h.2
      have h := h.2 c
      refine ⟨fun c => ?_, fun c => ?_⟩
      · have h := h.1 c
        refine f_aload_n (kd84 rfl) rfl rfl ?_
        refine f_aload_n (kd84 rfl) rfl rfl ?_
        refine f_iload (kd84 rfl) rfl rfl ?_
        refine f_iconst (kd84 rfl) (y := 1) (by decide) rfl ?_
        refine f_iadd (kd84 rfl) rfl ?_
        obtain ⟨g, h⟩ := h
        refine f_iaload (kd84 rfl) g rfl ?_
        obtain ⟨g, h⟩ := h
        refine f_callVI (d' := d - 1) (by omega) (kd84 rfl) (by decide) rfl rfl rfl rfl (Nat.le_of_ble_eq_true rfl) rfl L31 (Nat.le_of_ble_eq_true rfl) (Nat.le_of_ble_eq_true rfl) g (Nat.zero_le _) (Nat.zero_le _) rfl rfl rfl (b_Mill_room (by omega) h) (fun x1 M1 h => ?_)
        refine f_aload_n (kd84 rfl) rfl rfl ?_
        refine f_aload_n (kd84 rfl) rfl rfl ?_
        refine f_iload (kd84 rfl) rfl rfl ?_
        refine f_iconst (kd84 rfl) (y := 1) (by decide) rfl ?_
        refine f_iadd (kd84 rfl) rfl ?_
        obtain ⟨g, h⟩ := h
        refine f_iaload (kd84 rfl) g rfl ?_
        obtain ⟨g, h⟩ := h
        refine f_callVI (d' := d - 1) (by omega) (kd84 rfl) (by decide) rfl rfl rfl rfl (Nat.le_of_ble_eq_true rfl) rfl L60 (Nat.le_of_ble_eq_true rfl) (Nat.le_of_ble_eq_true rfl) g (Nat.zero_le _) (Nat.zero_le _) rfl rfl rfl (b_Mod_room (by omega) h) (fun x1 M1 h => ?_)
        refine f_icmp_eq (kd84 rfl) rfl (fun c => ?_) (fun c => ?_)
        · have h := h.1 c
          exact (b_Law_law_1023 hd hk23 h).less (e_sc (List.mem_of_getElem? (i := 0) rfl) (e_sc (List.mem_of_getElem? (i := 1) rfl) (e_sc (List.mem_of_getElem? (i := 2) rfl) (e_sc (List.mem_of_getElem? (i := 3) rfl) (e_sc (List.mem_of_getElem? (i := 4) rfl) e_sn)))))
        · have h := h.2 c
          refine f_iconst (kd84 rfl) (y := 0) (by decide) rfl ?_
          exact f_zreturn (kd84 rfl) R84 h.1 h.2
      have h := h.2 c
      refine ⟨fun c => ?_, fun c => ?_⟩
      · have h := h.1 c
        refine f_aload_n (kd84 rfl) rfl rfl ?_
        refine f_aload_n (kd84 rfl) rfl rfl ?_
        refine f_iload (kd84 rfl) rfl rfl ?_
        refine f_iconst (kd84 rfl) (y := 1) (by decide) rfl ?_
        refine f_iadd (kd84 rfl) rfl ?_
        obtain ⟨g, h⟩ := h
        refine f_iaload (kd84 rfl) g rfl ?_
        obtain ⟨g, h⟩ := h
        refine f_callVI (d' := d - 1) (by omega) (kd84 rfl) (by decide) rfl rfl rfl rfl (Nat.le_of_ble_eq_true rfl) rfl L32 (Nat.le_of_ble_eq_true rfl) (Nat.le_of_ble_eq_true rfl) g (Nat.zero_le _) (Nat.zero_le _) rfl rfl rfl (b_Mill_give (by omega) h) (fun x1 M1 h => ?_)
        refine f_aload_n (kd84 rfl) rfl rfl ?_
        refine f_aload_n (kd84 rfl) rfl rfl ?_
        refine f_iload (kd84 rfl) rfl rfl ?_
        refine f_iconst (kd84 rfl) (y := 1) (by decide) rfl ?_
        refine f_iadd (kd84 rfl) rfl ?_
        obtain ⟨g, h⟩ := h
        refine f_iaload (kd84 rfl) g rfl ?_
        obtain ⟨g, h⟩ := h
        refine f_callVI (d' := d - 1) (by omega) (kd84 rfl) (by decide) rfl rfl rfl rfl (Nat.le_of_ble_eq_true rfl) rfl L61 (Nat.le_of_ble_eq_true rfl) (Nat.le_of_ble_eq_true rfl) g (Nat.zero_le _) (Nat.zero_le _) rfl rfl rfl (b_Mod_give (by omega) h) (fun x1 M1 h => ?_)
        refine f_icmp_eq (kd84 rfl) rfl (fun c => ?_) (fun c => ?_)
        · have h := h.1 c
          exact (b_Law_law_1023 hd hk23 h).less (e_sc (List.mem_of_getElem? (i := 0) rfl) (e_sc (List.mem_of_getElem? (i := 1) rfl) (e_sc (List.mem_of_getElem? (i := 2) rfl) (e_sc (List.mem_of_getElem? (i := 3) rfl) (e_sc (List.mem_of_getElem? (i := 4) rfl) e_sn)))))
        · have h := h.2 c
          refine f_iconst (kd84 rfl) (y := 0) (by decide) rfl ?_
          exact f_zreturn (kd84 rfl) R84 h.1 h.2
      have h := h.2 c
      refine ⟨fun c => ?_, fun c => ?_⟩
      · have h := h.1 c
        refine f_aload_n (kd84 rfl) rfl rfl ?_
        refine f_aload_n (kd84 rfl) rfl rfl ?_
        refine f_iload (kd84 rfl) rfl rfl ?_
        refine f_iconst (kd84 rfl) (y := 1) (by decide) rfl ?_
        refine f_iadd (kd84 rfl) rfl ?_
        obtain ⟨g, h⟩ := h
        refine f_iaload (kd84 rfl) g rfl ?_
        refine f_aload_n (kd84 rfl) rfl rfl ?_
        refine f_iload (kd84 rfl) rfl rfl ?_
        refine f_iconst (kd84 rfl) (y := 2) (by decide) rfl ?_
        refine f_iadd (kd84 rfl) rfl ?_
        obtain ⟨g, h⟩ := h
        refine f_iaload (kd84 rfl) g rfl ?_
        refine f_aload_n (kd84 rfl) rfl rfl ?_
        refine f_iload (kd84 rfl) rfl rfl ?_
        refine f_iconst (kd84 rfl) (y := 3) (by decide) rfl ?_
        refine f_iadd (kd84 rfl) rfl ?_
        obtain ⟨g, h⟩ := h
        refine f_iaload (kd84 rfl) g rfl ?_
        refine f_aload_n (kd84 rfl) rfl rfl ?_
        refine f_iload (kd84 rfl) rfl rfl ?_
        refine f_iconst (kd84 rfl) (y := 4) (by decide) rfl ?_
        refine f_iadd (kd84 rfl) rfl ?_
        obtain ⟨g, h⟩ := h
        refine f_iaload (kd84 rfl) g rfl ?_
        obtain ⟨g, h⟩ := h
        refine f_callVI (d' := d - 1) (by omega) (kd84 rfl) (by decide) rfl rfl rfl rfl (Nat.le_of_ble_eq_true rfl) rfl L33 (Nat.le_of_ble_eq_true rfl) (Nat.le_of_ble_eq_true rfl) g (Nat.zero_le _) (Nat.zero_le _) rfl rfl rfl (b_Mill_start (by omega) h) (fun x1 M1 h => ?_)
        refine f_aload_n (kd84 rfl) rfl rfl ?_
        refine f_aload_n (kd84 rfl) rfl rfl ?_
        refine f_iload (kd84 rfl) rfl rfl ?_
        refine f_iconst (kd84 rfl) (y := 1) (by decide) rfl ?_
        refine f_iadd (kd84 rfl) rfl ?_
        obtain ⟨g, h⟩ := h
        refine f_iaload (kd84 rfl) g rfl ?_
        refine f_aload_n (kd84 rfl) rfl rfl ?_
        refine f_iload (kd84 rfl) rfl rfl ?_
        refine f_iconst (kd84 rfl) (y := 2) (by decide) rfl ?_
        refine f_iadd (kd84 rfl) rfl ?_
        obtain ⟨g, h⟩ := h
        refine f_iaload (kd84 rfl) g rfl ?_
        refine f_aload_n (kd84 rfl) rfl rfl ?_
        refine f_iload (kd84 rfl) rfl rfl ?_
        refine f_iconst (kd84 rfl) (y := 3) (by decide) rfl ?_
        refine f_iadd (kd84 rfl) rfl ?_
        obtain ⟨g, h⟩ := h
        refine f_iaload (kd84 rfl) g rfl ?_
        refine f_aload_n (kd84 rfl) rfl rfl ?_
        refine f_iload (kd84 rfl) rfl rfl ?_
        refine f_iconst (kd84 rfl) (y := 4) (by decide) rfl ?_
        refine f_iadd (kd84 rfl) rfl ?_
        obtain ⟨g, h⟩ := h
        refine f_iaload (kd84 rfl) g rfl ?_
        obtain ⟨g, h⟩ := h
        refine f_callVI (d' := d - 1) (by omega) (kd84 rfl) (by decide) rfl rfl rfl rfl (Nat.le_of_ble_eq_true rfl) rfl L62 (Nat.le_of_ble_eq_true rfl) (Nat.le_of_ble_eq_true rfl) g (Nat.zero_le _) (Nat.zero_le _) rfl rfl rfl (b_Mod_start (by omega) h) (fun x1 M1 h => ?_)
        refine f_icmp_eq (kd84 rfl) rfl (fun c => ?_) (fun c => ?_)
        · have h := h.1 c
          exact (b_Law_law_1023 hd hk23 h).less (e_sc (List.mem_of_getElem? (i := 0) rfl) (e_sc (List.mem_of_getElem? (i := 1) rfl) (e_sc (List.mem_of_getElem? (i := 2) rfl) (e_sc (List.mem_of_getElem? (i := 3) rfl) (e_sc (List.mem_of_getElem? (i := 4) rfl) e_sn)))))
        · have h := h.2 c
          refine f_iconst (kd84 rfl) (y := 0) (by decide) rfl ?_
          exact f_zreturn (kd84 rfl) R84 h.1 h.2
      have h := h.2 c
      refine ⟨fun c => ?_, fun c => ?_⟩
      · have h := h.1 c
        refine f_aload_n (kd84 rfl) rfl rfl ?_
        refine f_aload_n (kd84 rfl) rfl rfl ?_
        refine f_iload (kd84 rfl) rfl rfl ?_
        refine f_iconst (kd84 rfl) (y := 1) (by decide) rfl ?_
        refine f_iadd (kd84 rfl) rfl ?_
        obtain ⟨g, h⟩ := h
        refine f_iaload (kd84 rfl) g rfl ?_
        refine f_aload_n (kd84 rfl) rfl rfl ?_
        obtain ⟨mc, ms, q1, q2, h⟩ := h
        refine f_helpI (d' := d - 1) e_okL80 (by omega) (kd84 rfl) (by decide) rfl (Nat.le_of_ble_eq_true rfl) rfl L80 (Nat.le_of_ble_eq_true rfl) rfl (Nat.le_of_ble_eq_true rfl) q1 q2 rfl rfl rfl (b_Law_run (by omega) h) (fun x1 M1 h => ?_)
        refine f_istore (kd84 rfl) L84 (by decide) rfl rfl ?_
        refine f_aload_n (kd84 rfl) rfl rfl ?_
        refine f_aload_n (kd84 rfl) rfl rfl ?_
        refine f_iload (kd84 rfl) rfl rfl ?_
        refine f_iconst (kd84 rfl) (y := 1) (by decide) rfl ?_
        refine f_iadd (kd84 rfl) rfl ?_
        obtain ⟨g, h⟩ := h
        refine f_iaload (kd84 rfl) g rfl ?_
        obtain ⟨g, h⟩ := h
        refine f_callVI (d' := d - 1) (by omega) (kd84 rfl) (by decide) rfl rfl rfl rfl (Nat.le_of_ble_eq_true rfl) rfl L64 (Nat.le_of_ble_eq_true rfl) (Nat.le_of_ble_eq_true rfl) g (Nat.zero_le _) (Nat.zero_le _) rfl rfl rfl (b_Mod_run (by omega) h) (fun x1 M1 h => ?_)
        refine f_istore (kd84 rfl) L84 (by decide) rfl rfl ?_
        refine f_aload_n (kd84 rfl) rfl rfl ?_
        obtain ⟨g, h⟩ := h
        refine f_callVI (d' := d - 1) (by omega) (kd84 rfl) (by decide) rfl rfl rfl rfl (Nat.le_of_ble_eq_true rfl) rfl L48 (Nat.le_of_ble_eq_true rfl) (Nat.le_of_ble_eq_true rfl) g (Nat.zero_le _) (Nat.zero_le _) rfl rfl rfl (b_Mod_thrown (by omega) h) (fun x1 M1 h => ?_)
        refine f_iload (kd84 rfl) rfl rfl ?_
        refine f_icmp_eq (kd84 rfl) rfl (fun c => ?_) (fun c => ?_)
        · have h := h.1 c
          refine f_iload (kd84 rfl) rfl rfl ?_
          refine f_if_ne (kd84 rfl) rfl (fun c => ?_) (fun c => ?_)
          · have h := h.1 c
            exact (b_Law_law_544 hd hk23 h).less (e_sc (List.mem_of_getElem? (i := 2) rfl) (e_sc (List.mem_of_getElem? (i := 3) rfl) (e_sc (List.mem_of_getElem? (i := 4) rfl) (e_sc (List.mem_of_getElem? (i := 5) rfl) (e_sc (List.mem_of_getElem? (i := 6) rfl) e_sn)))))
          · have h := h.2 c
            refine f_aload_n (kd84 rfl) rfl rfl ?_
            refine f_iconst (kd84 rfl) (y := 0) (by decide) rfl ?_
            obtain ⟨g, h⟩ := h
            refine f_laload (kd84 rfl) g rfl ?_
            refine f_iload (kd84 rfl) rfl rfl ?_
            refine f_i2l (kd84 rfl) rfl ?_
            refine f_lcmp (kd84 rfl) rfl ?_
            refine f_if_eq (kd84 rfl) rfl (fun c => ?_) (fun c => ?_)
            · have h := h.1 c
              exact (b_Law_law_544 hd hk23 h).less (e_sc (List.mem_of_getElem? (i := 2) rfl) (e_sc (List.mem_of_getElem? (i := 3) rfl) (e_sc (List.mem_of_getElem? (i := 4) rfl) (e_sc (List.mem_of_getElem? (i := 5) rfl) (e_sc (List.mem_of_getElem? (i := 6) rfl) e_sn)))))
            · have h := h.2 c
              refine f_iconst (kd84 rfl) (y := 0) (by decide) rfl ?_
              exact f_zreturn (kd84 rfl) R84 h.1 h.2
        · have h := h.2 c
          refine f_iconst (kd84 rfl) (y := 0) (by decide) rfl ?_
          exact f_zreturn (kd84 rfl) R84 h.1 h.2
      have h := h.2 c
      refine ⟨fun c => ?_, fun c => ?_⟩
      · have h := h.1 c
        refine f_aload_n (kd84 rfl) rfl rfl ?_
        obtain ⟨g, h⟩ := h
        refine f_callVI (d' := d - 1) (by omega) (kd84 rfl) (by decide) rfl rfl rfl rfl (Nat.le_of_ble_eq_true rfl) rfl L35 (Nat.le_of_ble_eq_true rfl) (Nat.le_of_ble_eq_true rfl) g (Nat.zero_le _) (Nat.zero_le _) rfl rfl rfl (b_Mill_state (by omega) h) (fun x1 M1 h => ?_)
        refine f_aload_n (kd84 rfl) rfl rfl ?_
        obtain ⟨g, h⟩ := h
        refine f_callVI (d' := d - 1) (by omega) (kd84 rfl) (by decide) rfl rfl rfl rfl (Nat.le_of_ble_eq_true rfl) rfl L65 (Nat.le_of_ble_eq_true rfl) (Nat.le_of_ble_eq_true rfl) g (Nat.zero_le _) (Nat.zero_le _) rfl rfl rfl (b_Mod_state (by omega) h) (fun x1 M1 h => ?_)
        refine f_icmp_eq (kd84 rfl) rfl (fun c => ?_) (fun c => ?_)
        · have h := h.1 c
          exact (b_Law_law_1023 hd hk23 h).less (e_sc (List.mem_of_getElem? (i := 0) rfl) (e_sc (List.mem_of_getElem? (i := 1) rfl) (e_sc (List.mem_of_getElem? (i := 2) rfl) (e_sc (List.mem_of_getElem? (i := 3) rfl) (e_sc (List.mem_of_getElem? (i := 4) rfl) e_sn)))))
        · have h := h.2 c
          refine f_iconst (kd84 rfl) (y := 0) (by decide) rfl ?_
          exact f_zreturn (kd84 rfl) R84 h.1 h.2
      have h := h.2 c
      refine ⟨fun c => ?_, fun c => ?_⟩
      · have h := h.1 c
        refine f_aload_n (kd84 rfl) rfl rfl ?_
        refine f_aload_n (kd84 rfl) rfl rfl ?_
        refine f_iload (kd84 rfl) rfl rfl ?_
        refine f_iconst (kd84 rfl) (y := 1) (by decide) rfl ?_
        refine f_iadd (kd84 rfl) rfl ?_
        obtain ⟨g, h⟩ := h
        refine f_iaload (kd84 rfl) g rfl ?_
        obtain ⟨g, h⟩ := h
        refine f_callVI (d' := d - 1) (by omega) (kd84 rfl) (by decide) rfl rfl rfl rfl (Nat.le_of_ble_eq_true rfl) rfl L36 (Nat.le_of_ble_eq_true rfl) (Nat.le_of_ble_eq_true rfl) g (Nat.zero_le _) (Nat.zero_le _) rfl rfl rfl (b_Mill_result (by omega) h) (fun x1 M1 h => ?_)
        refine f_aload_n (kd84 rfl) rfl rfl ?_
        refine f_aload_n (kd84 rfl) rfl rfl ?_
        refine f_iload (kd84 rfl) rfl rfl ?_
        refine f_iconst (kd84 rfl) (y := 1) (by decide) rfl ?_
        refine f_iadd (kd84 rfl) rfl ?_
        obtain ⟨g, h⟩ := h
        refine f_iaload (kd84 rfl) g rfl ?_
        obtain ⟨g, h⟩ := h
        refine f_callVI (d' := d - 1) (by omega) (kd84 rfl) (by decide) rfl rfl rfl rfl (Nat.le_of_ble_eq_true rfl) rfl L66 (Nat.le_of_ble_eq_true rfl) (Nat.le_of_ble_eq_true rfl) g (Nat.zero_le _) (Nat.zero_le _) rfl rfl rfl (b_Mod_result (by omega) h) (fun x1 M1 h => ?_)
        refine f_icmp_eq (kd84 rfl) rfl (fun c => ?_) (fun c => ?_)
        · have h := h.1 c
          exact (b_Law_law_1023 hd hk23 h).less (e_sc (List.mem_of_getElem? (i := 0) rfl) (e_sc (List.mem_of_getElem? (i := 1) rfl) (e_sc (List.mem_of_getElem? (i := 2) rfl) (e_sc (List.mem_of_getElem? (i := 3) rfl) (e_sc (List.mem_of_getElem? (i := 4) rfl) e_sn)))))
        · have h := h.2 c
          refine f_iconst (kd84 rfl) (y := 0) (by decide) rfl ?_
          exact f_zreturn (kd84 rfl) R84 h.1 h.2
      have h := h.2 c
      refine ⟨fun c => ?_, fun c => ?_⟩
      · have h := h.1 c
        refine f_aload_n (kd84 rfl) rfl rfl ?_
        refine f_aload_n (kd84 rfl) rfl rfl ?_
        refine f_iload (kd84 rfl) rfl rfl ?_
        refine f_iconst (kd84 rfl) (y := 1) (by decide) rfl ?_
        refine f_iadd (kd84 rfl) rfl ?_
        obtain ⟨g, h⟩ := h
        refine f_iaload (kd84 rfl) g rfl ?_
        refine f_aload_n (kd84 rfl) rfl rfl ?_
        obtain ⟨mc, ms, q1, q2, h⟩ := h
        refine f_helpI (d' := d - 1) e_okL81 (by omega) (kd84 rfl) (by decide) rfl (Nat.le_of_ble_eq_true rfl) rfl L81 (Nat.le_of_ble_eq_true rfl) rfl (Nat.le_of_ble_eq_true rfl) q1 q2 rfl rfl rfl (b_Law_output (by omega) h) (fun x1 M1 h => ?_)
        refine f_istore (kd84 rfl) L84 (by decide) rfl rfl ?_
        refine f_aload_n (kd84 rfl) rfl rfl ?_
        refine f_aload_n (kd84 rfl) rfl rfl ?_
        refine f_iload (kd84 rfl) rfl rfl ?_
        refine f_iconst (kd84 rfl) (y := 1) (by decide) rfl ?_
        refine f_iadd (kd84 rfl) rfl ?_
        obtain ⟨g, h⟩ := h
        refine f_iaload (kd84 rfl) g rfl ?_
        obtain ⟨g, h⟩ := h
        refine f_callVI (d' := d - 1) (by omega) (kd84 rfl) (by decide) rfl rfl rfl rfl (Nat.le_of_ble_eq_true rfl) rfl L67 (Nat.le_of_ble_eq_true rfl) (Nat.le_of_ble_eq_true rfl) g (Nat.zero_le _) (Nat.zero_le _) rfl rfl rfl (b_Mod_output (by omega) h) (fun x1 M1 h => ?_)
        refine f_istore (kd84 rfl) L84 (by decide) rfl rfl ?_
        refine f_aload_n (kd84 rfl) rfl rfl ?_
        obtain ⟨g, h⟩ := h
        refine f_callVI (d' := d - 1) (by omega) (kd84 rfl) (by decide) rfl rfl rfl rfl (Nat.le_of_ble_eq_true rfl) rfl L48 (Nat.le_of_ble_eq_true rfl) (Nat.le_of_ble_eq_true rfl) g (Nat.zero_le _) (Nat.zero_le _) rfl rfl rfl (b_Mod_thrown (by omega) h) (fun x1 M1 h => ?_)
        refine f_iload (kd84 rfl) rfl rfl ?_
        refine f_icmp_eq (kd84 rfl) rfl (fun c => ?_) (fun c => ?_)
        · have h := h.1 c
          refine f_iload (kd84 rfl) rfl rfl ?_
          refine f_if_ne (kd84 rfl) rfl (fun c => ?_) (fun c => ?_)
          · have h := h.1 c
            exact (b_Law_law_638 hd hk23 h).less (e_sc (List.mem_of_getElem? (i := 2) rfl) (e_sc (List.mem_of_getElem? (i := 3) rfl) (e_sc (List.mem_of_getElem? (i := 4) rfl) (e_sc (List.mem_of_getElem? (i := 5) rfl) (e_sc (List.mem_of_getElem? (i := 6) rfl) e_sn)))))
          · have h := h.2 c
            refine f_aload_n (kd84 rfl) rfl rfl ?_
            refine f_iconst (kd84 rfl) (y := 0) (by decide) rfl ?_
            obtain ⟨g, h⟩ := h
            refine f_laload (kd84 rfl) g rfl ?_
            refine f_iload (kd84 rfl) rfl rfl ?_
            refine f_i2l (kd84 rfl) rfl ?_
            refine f_lcmp (kd84 rfl) rfl ?_
            refine f_if_eq (kd84 rfl) rfl (fun c => ?_) (fun c => ?_)
            · have h := h.1 c
              exact (b_Law_law_638 hd hk23 h).less (e_sc (List.mem_of_getElem? (i := 2) rfl) (e_sc (List.mem_of_getElem? (i := 3) rfl) (e_sc (List.mem_of_getElem? (i := 4) rfl) (e_sc (List.mem_of_getElem? (i := 5) rfl) (e_sc (List.mem_of_getElem? (i := 6) rfl) e_sn)))))
            · have h := h.2 c
              refine f_iconst (kd84 rfl) (y := 0) (by decide) rfl ?_
              exact f_zreturn (kd84 rfl) R84 h.1 h.2
        · have h := h.2 c
          refine f_iconst (kd84 rfl) (y := 0) (by decide) rfl ?_
          exact f_zreturn (kd84 rfl) R84 h.1 h.2
      have h := h.2 c
      refine ⟨fun c => ?_, fun c => ?_⟩
      · have h := h.1 c
        refine f_aload_n (kd84 rfl) rfl rfl ?_
        refine f_aload_n (kd84 rfl) rfl rfl ?_
        refine f_iload (kd84 rfl) rfl rfl ?_
        refine f_iconst (kd84 rfl) (y := 1) (by decide) rfl ?_
        refine f_iadd (kd84 rfl) rfl ?_
        obtain ⟨g, h⟩ := h
        refine f_iaload (kd84 rfl) g rfl ?_
        refine f_aload_n (kd84 rfl) rfl rfl ?_
        refine f_iload (kd84 rfl) rfl rfl ?_
        refine f_iconst (kd84 rfl) (y := 2) (by decide) rfl ?_
        refine f_iadd (kd84 rfl) rfl ?_
        obtain ⟨g, h⟩ := h
        refine f_iaload (kd84 rfl) g rfl ?_
        obtain ⟨g, h⟩ := h
        refine f_callVI (d' := d - 1) (by omega) (kd84 rfl) (by decide) rfl rfl rfl rfl (Nat.le_of_ble_eq_true rfl) rfl L38 (Nat.le_of_ble_eq_true rfl) (Nat.le_of_ble_eq_true rfl) g (Nat.zero_le _) (Nat.zero_le _) rfl rfl rfl (b_Mill_frame (by omega) h) (fun x1 M1 h => ?_)
        refine f_aload_n (kd84 rfl) rfl rfl ?_
        refine f_aload_n (kd84 rfl) rfl rfl ?_
        refine f_iload (kd84 rfl) rfl rfl ?_
        refine f_iconst (kd84 rfl) (y := 1) (by decide) rfl ?_
        refine f_iadd (kd84 rfl) rfl ?_
        obtain ⟨g, h⟩ := h
        refine f_iaload (kd84 rfl) g rfl ?_
        refine f_aload_n (kd84 rfl) rfl rfl ?_
        refine f_iload (kd84 rfl) rfl rfl ?_
        refine f_iconst (kd84 rfl) (y := 2) (by decide) rfl ?_
        refine f_iadd (kd84 rfl) rfl ?_
        obtain ⟨g, h⟩ := h
        refine f_iaload (kd84 rfl) g rfl ?_
        obtain ⟨g, h⟩ := h
        refine f_callVI (d' := d - 1) (by omega) (kd84 rfl) (by decide) rfl rfl rfl rfl (Nat.le_of_ble_eq_true rfl) rfl L69 (Nat.le_of_ble_eq_true rfl) (Nat.le_of_ble_eq_true rfl) g (Nat.zero_le _) (Nat.zero_le _) rfl rfl rfl (b_Mod_frame (by omega) h) (fun x1 M1 h => ?_)
        refine f_icmp_eq (kd84 rfl) rfl (fun c => ?_) (fun c => ?_)
        · have h := h.1 c
          exact (b_Law_law_1023 hd hk23 h).less (e_sc (List.mem_of_getElem? (i := 0) rfl) (e_sc (List.mem_of_getElem? (i := 1) rfl) (e_sc (List.mem_of_getElem? (i := 2) rfl) (e_sc (List.mem_of_getElem? (i := 3) rfl) (e_sc (List.mem_of_getElem? (i := 4) rfl) e_sn)))))
        · have h := h.2 c
          refine f_iconst (kd84 rfl) (y := 0) (by decide) rfl ?_
          exact f_zreturn (kd84 rfl) R84 h.1 h.2
      have h := h.2 c
      refine ⟨fun c => ?_, fun c => ?_⟩
      · have h := h.1 c
        refine f_aload_n (kd84 rfl) rfl rfl ?_
        refine f_aload_n (kd84 rfl) rfl rfl ?_
        refine f_iload (kd84 rfl) rfl rfl ?_
        refine f_iconst (kd84 rfl) (y := 1) (by decide) rfl ?_
        refine f_iadd (kd84 rfl) rfl ?_
        obtain ⟨g, h⟩ := h
        refine f_iaload (kd84 rfl) g rfl ?_
        refine f_aload_n (kd84 rfl) rfl rfl ?_
        refine f_iload (kd84 rfl) rfl rfl ?_
        refine f_iconst (kd84 rfl) (y := 2) (by decide) rfl ?_
        refine f_iadd (kd84 rfl) rfl ?_
        obtain ⟨g, h⟩ := h
        refine f_iaload (kd84 rfl) g rfl ?_
        refine f_aload_n (kd84 rfl) rfl rfl ?_
        obtain ⟨mc, ms, q1, q2, h⟩ := h
        refine f_helpI (d' := d - 1) e_okL82 (by omega) (kd84 rfl) (by decide) rfl (Nat.le_of_ble_eq_true rfl) rfl L82 (Nat.le_of_ble_eq_true rfl) rfl (Nat.le_of_ble_eq_true rfl) q1 q2 rfl rfl rfl (b_Law_local (by omega) h) (fun x1 M1 h => ?_)
        refine f_istore (kd84 rfl) L84 (by decide) rfl rfl ?_
        refine f_aload_n (kd84 rfl) rfl rfl ?_
        refine f_aload_n (kd84 rfl) rfl rfl ?_
        refine f_iload (kd84 rfl) rfl rfl ?_
        refine f_iconst (kd84 rfl) (y := 1) (by decide) rfl ?_
        refine f_iadd (kd84 rfl) rfl ?_
        obtain ⟨g, h⟩ := h
        refine f_iaload (kd84 rfl) g rfl ?_
        refine f_aload_n (kd84 rfl) rfl rfl ?_
        refine f_iload (kd84 rfl) rfl rfl ?_
        refine f_iconst (kd84 rfl) (y := 2) (by decide) rfl ?_
        refine f_iadd (kd84 rfl) rfl ?_
        obtain ⟨g, h⟩ := h
        refine f_iaload (kd84 rfl) g rfl ?_
        obtain ⟨g, h⟩ := h
        refine f_callVI (d' := d - 1) (by omega) (kd84 rfl) (by decide) rfl rfl rfl rfl (Nat.le_of_ble_eq_true rfl) rfl L71 (Nat.le_of_ble_eq_true rfl) (Nat.le_of_ble_eq_true rfl) g (Nat.zero_le _) (Nat.zero_le _) rfl rfl rfl (b_Mod_local (by omega) h) (fun x1 M1 h => ?_)
        refine f_istore (kd84 rfl) L84 (by decide) rfl rfl ?_
        refine f_aload_n (kd84 rfl) rfl rfl ?_
        obtain ⟨g, h⟩ := h
        refine f_callVI (d' := d - 1) (by omega) (kd84 rfl) (by decide) rfl rfl rfl rfl (Nat.le_of_ble_eq_true rfl) rfl L48 (Nat.le_of_ble_eq_true rfl) (Nat.le_of_ble_eq_true rfl) g (Nat.zero_le _) (Nat.zero_le _) rfl rfl rfl (b_Mod_thrown (by omega) h) (fun x1 M1 h => ?_)
        refine f_iload (kd84 rfl) rfl rfl ?_
        refine f_icmp_eq (kd84 rfl) rfl (fun c => ?_) (fun c => ?_)
        · have h := h.1 c
          refine f_iload (kd84 rfl) rfl rfl ?_
          refine f_if_ne (kd84 rfl) rfl (fun c => ?_) (fun c => ?_)
          · have h := h.1 c
            exact (b_Law_law_743 hd hk23 h).less (e_sc (List.mem_of_getElem? (i := 2) rfl) (e_sc (List.mem_of_getElem? (i := 3) rfl) (e_sc (List.mem_of_getElem? (i := 4) rfl) (e_sc (List.mem_of_getElem? (i := 5) rfl) (e_sc (List.mem_of_getElem? (i := 6) rfl) e_sn)))))
          · have h := h.2 c
            refine f_aload_n (kd84 rfl) rfl rfl ?_
            refine f_iconst (kd84 rfl) (y := 0) (by decide) rfl ?_
            obtain ⟨g, h⟩ := h
            refine f_laload (kd84 rfl) g rfl ?_
            refine f_iload (kd84 rfl) rfl rfl ?_
            refine f_i2l (kd84 rfl) rfl ?_
            refine f_lcmp (kd84 rfl) rfl ?_
            refine f_if_eq (kd84 rfl) rfl (fun c => ?_) (fun c => ?_)
            · have h := h.1 c
              exact (b_Law_law_743 hd hk23 h).less (e_sc (List.mem_of_getElem? (i := 2) rfl) (e_sc (List.mem_of_getElem? (i := 3) rfl) (e_sc (List.mem_of_getElem? (i := 4) rfl) (e_sc (List.mem_of_getElem? (i := 5) rfl) (e_sc (List.mem_of_getElem? (i := 6) rfl) e_sn)))))
            · have h := h.2 c
              refine f_iconst (kd84 rfl) (y := 0) (by decide) rfl ?_
              exact f_zreturn (kd84 rfl) R84 h.1 h.2
        · have h := h.2 c
          refine f_iconst (kd84 rfl) (y := 0) (by decide) rfl ?_
          exact f_zreturn (kd84 rfl) R84 h.1 h.2
      have h := h.2 c
      refine ⟨fun c => ?_, fun c => ?_⟩
      · have h := h.1 c
        refine f_aload_n (kd84 rfl) rfl rfl ?_
        refine f_aload_n (kd84 rfl) rfl rfl ?_
        refine f_iload (kd84 rfl) rfl rfl ?_
        refine f_iconst (kd84 rfl) (y := 1) (by decide) rfl ?_
        refine f_iadd (kd84 rfl) rfl ?_
        obtain ⟨g, h⟩ := h
        refine f_iaload (kd84 rfl) g rfl ?_
        refine f_aload_n (kd84 rfl) rfl rfl ?_
        refine f_iload (kd84 rfl) rfl rfl ?_
        refine f_iconst (kd84 rfl) (y := 2) (by decide) rfl ?_
        refine f_iadd (kd84 rfl) rfl ?_
        obtain ⟨g, h⟩ := h
        refine f_iaload (kd84 rfl) g rfl ?_
        refine f_aload_n (kd84 rfl) rfl rfl ?_
        refine f_iload (kd84 rfl) rfl rfl ?_
        refine f_iconst (kd84 rfl) (y := 3) (by decide) rfl ?_
        refine f_iadd (kd84 rfl) rfl ?_
        obtain ⟨g, h⟩ := h
        refine f_iaload (kd84 rfl) g rfl ?_
        refine f_aload_n (kd84 rfl) rfl rfl ?_
        obtain ⟨mc, ms, q1, q2, h⟩ := h
        refine f_helpI (d' := d - 1) e_okL83 (by omega) (kd84 rfl) (by decide) rfl (Nat.le_of_ble_eq_true rfl) rfl L83 (Nat.le_of_ble_eq_true rfl) rfl (Nat.le_of_ble_eq_true rfl) q1 q2 rfl rfl rfl (b_Law_part (by omega) h) (fun x1 M1 h => ?_)
        refine f_istore (kd84 rfl) L84 (by decide) rfl rfl ?_
        refine f_aload_n (kd84 rfl) rfl rfl ?_
        refine f_aload_n (kd84 rfl) rfl rfl ?_
        refine f_iload (kd84 rfl) rfl rfl ?_
        refine f_iconst (kd84 rfl) (y := 1) (by decide) rfl ?_
        refine f_iadd (kd84 rfl) rfl ?_
        obtain ⟨g, h⟩ := h
        refine f_iaload (kd84 rfl) g rfl ?_
        refine f_aload_n (kd84 rfl) rfl rfl ?_
        refine f_iload (kd84 rfl) rfl rfl ?_
        refine f_iconst (kd84 rfl) (y := 2) (by decide) rfl ?_
        refine f_iadd (kd84 rfl) rfl ?_
        obtain ⟨g, h⟩ := h
        refine f_iaload (kd84 rfl) g rfl ?_
        refine f_aload_n (kd84 rfl) rfl rfl ?_
        refine f_iload (kd84 rfl) rfl rfl ?_
        refine f_iconst (kd84 rfl) (y := 3) (by decide) rfl ?_
        refine f_iadd (kd84 rfl) rfl ?_
        obtain ⟨g, h⟩ := h
        refine f_iaload (kd84 rfl) g rfl ?_
        obtain ⟨g, h⟩ := h
        refine f_callVI (d' := d - 1) (by omega) (kd84 rfl) (by decide) rfl rfl rfl rfl (Nat.le_of_ble_eq_true rfl) rfl L72 (Nat.le_of_ble_eq_true rfl) (Nat.le_of_ble_eq_true rfl) g (Nat.zero_le _) (Nat.zero_le _) rfl rfl rfl (b_Mod_part (by omega) h) (fun x1 M1 h => ?_)
        refine f_istore (kd84 rfl) L84 (by decide) rfl rfl ?_
        refine f_aload_n (kd84 rfl) rfl rfl ?_
        obtain ⟨g, h⟩ := h
        refine f_callVI (d' := d - 1) (by omega) (kd84 rfl) (by decide) rfl rfl rfl rfl (Nat.le_of_ble_eq_true rfl) rfl L48 (Nat.le_of_ble_eq_true rfl) (Nat.le_of_ble_eq_true rfl) g (Nat.zero_le _) (Nat.zero_le _) rfl rfl rfl (b_Mod_thrown (by omega) h) (fun x1 M1 h => ?_)
        refine f_iload (kd84 rfl) rfl rfl ?_
        refine f_icmp_eq (kd84 rfl) rfl (fun c => ?_) (fun c => ?_)
        · have h := h.1 c
          refine f_iload (kd84 rfl) rfl rfl ?_
          refine f_if_ne (kd84 rfl) rfl (fun c => ?_) (fun c => ?_)
          · have h := h.1 c
            exact (b_Law_law_823 hd hk23 h).less (e_sc (List.mem_of_getElem? (i := 2) rfl) (e_sc (List.mem_of_getElem? (i := 3) rfl) (e_sc (List.mem_of_getElem? (i := 4) rfl) (e_sc (List.mem_of_getElem? (i := 5) rfl) (e_sc (List.mem_of_getElem? (i := 6) rfl) e_sn)))))
          · have h := h.2 c
            refine f_aload_n (kd84 rfl) rfl rfl ?_
            refine f_iconst (kd84 rfl) (y := 0) (by decide) rfl ?_
            obtain ⟨g, h⟩ := h
            refine f_laload (kd84 rfl) g rfl ?_
            refine f_iload (kd84 rfl) rfl rfl ?_
            refine f_i2l (kd84 rfl) rfl ?_
            refine f_lcmp (kd84 rfl) rfl ?_
            refine f_if_eq (kd84 rfl) rfl (fun c => ?_) (fun c => ?_)
            · have h := h.1 c
              exact (b_Law_law_823 hd hk23 h).less (e_sc (List.mem_of_getElem? (i := 2) rfl) (e_sc (List.mem_of_getElem? (i := 3) rfl) (e_sc (List.mem_of_getElem? (i := 4) rfl) (e_sc (List.mem_of_getElem? (i := 5) rfl) (e_sc (List.mem_of_getElem? (i := 6) rfl) e_sn)))))
            · have h := h.2 c
              refine f_iconst (kd84 rfl) (y := 0) (by decide) rfl ?_
              exact f_zreturn (kd84 rfl) R84 h.1 h.2
        · have h := h.2 c
          refine f_iconst (kd84 rfl) (y := 0) (by decide) rfl ?_
          exact f_zreturn (kd84 rfl) R84 h.1 h.2
      have h := h.2 c
      refine ⟨fun c => ?_, fun c => ?_⟩
      · have h := h.1 c
        refine f_aload_n (kd84 rfl) rfl rfl ?_
        refine f_aload_n (kd84 rfl) rfl rfl ?_
        refine f_iload (kd84 rfl) rfl rfl ?_
        refine f_iconst (kd84 rfl) (y := 1) (by decide) rfl ?_
        refine f_iadd (kd84 rfl) rfl ?_
        obtain ⟨g, h⟩ := h
        refine f_iaload (kd84 rfl) g rfl ?_
        refine f_aload_n (kd84 rfl) rfl rfl ?_
        refine f_iload (kd84 rfl) rfl rfl ?_
        refine f_iconst (kd84 rfl) (y := 2) (by decide) rfl ?_
        refine f_iadd (kd84 rfl) rfl ?_
        obtain ⟨g, h⟩ := h
        refine f_iaload (kd84 rfl) g rfl ?_
        obtain ⟨g, h⟩ := h
        refine f_callVI (d' := d - 1) (by omega) (kd84 rfl) (by decide) rfl rfl rfl rfl (Nat.le_of_ble_eq_true rfl) rfl L42 (Nat.le_of_ble_eq_true rfl) (Nat.le_of_ble_eq_true rfl) g (Nat.zero_le _) (Nat.zero_le _) rfl rfl rfl (b_Mill_method (by omega) h) (fun x1 M1 h => ?_)
        refine f_aload_n (kd84 rfl) rfl rfl ?_
        refine f_aload_n (kd84 rfl) rfl rfl ?_
        refine f_iload (kd84 rfl) rfl rfl ?_
        refine f_iconst (kd84 rfl) (y := 1) (by decide) rfl ?_
        refine f_iadd (kd84 rfl) rfl ?_
        obtain ⟨g, h⟩ := h
        refine f_iaload (kd84 rfl) g rfl ?_
        refine f_aload_n (kd84 rfl) rfl rfl ?_
        refine f_iload (kd84 rfl) rfl rfl ?_
        refine f_iconst (kd84 rfl) (y := 2) (by decide) rfl ?_
        refine f_iadd (kd84 rfl) rfl ?_
        obtain ⟨g, h⟩ := h
        refine f_iaload (kd84 rfl) g rfl ?_
        obtain ⟨g, h⟩ := h
        refine f_callVI (d' := d - 1) (by omega) (kd84 rfl) (by decide) rfl rfl rfl rfl (Nat.le_of_ble_eq_true rfl) rfl L74 (Nat.le_of_ble_eq_true rfl) (Nat.le_of_ble_eq_true rfl) g (Nat.zero_le _) (Nat.zero_le _) rfl rfl rfl (b_Mod_method (by omega) h) (fun x1 M1 h => ?_)
        refine f_icmp_eq (kd84 rfl) rfl (fun c => ?_) (fun c => ?_)
        · have h := h.1 c
          exact (b_Law_law_1023 hd hk23 h).less (e_sc (List.mem_of_getElem? (i := 0) rfl) (e_sc (List.mem_of_getElem? (i := 1) rfl) (e_sc (List.mem_of_getElem? (i := 2) rfl) (e_sc (List.mem_of_getElem? (i := 3) rfl) (e_sc (List.mem_of_getElem? (i := 4) rfl) e_sn)))))
        · have h := h.2 c
          refine f_iconst (kd84 rfl) (y := 0) (by decide) rfl ?_
          exact f_zreturn (kd84 rfl) R84 h.1 h.2
      have h := h.2 c
      refine ⟨fun c => ?_, fun c => ?_⟩
      · have h := h.1 c
        refine f_aload_n (kd84 rfl) rfl rfl ?_
        refine f_aload_n (kd84 rfl) rfl rfl ?_
        refine f_iload (kd84 rfl) rfl rfl ?_
        refine f_iconst (kd84 rfl) (y := 1) (by decide) rfl ?_
        refine f_iadd (kd84 rfl) rfl ?_
        obtain ⟨g, h⟩ := h
        refine f_iaload (kd84 rfl) g rfl ?_
        refine f_aload_n (kd84 rfl) rfl rfl ?_
        refine f_iload (kd84 rfl) rfl rfl ?_
        refine f_iconst (kd84 rfl) (y := 2) (by decide) rfl ?_
        refine f_iadd (kd84 rfl) rfl ?_
        obtain ⟨g, h⟩ := h
        refine f_iaload (kd84 rfl) g rfl ?_
        refine f_aload_n (kd84 rfl) rfl rfl ?_
        refine f_iload (kd84 rfl) rfl rfl ?_
        refine f_iconst (kd84 rfl) (y := 3) (by decide) rfl ?_
        refine f_iadd (kd84 rfl) rfl ?_
        obtain ⟨g, h⟩ := h
        refine f_iaload (kd84 rfl) g rfl ?_
        obtain ⟨g, h⟩ := h
        refine f_callVI (d' := d - 1) (by omega) (kd84 rfl) (by decide) rfl rfl rfl rfl (Nat.le_of_ble_eq_true rfl) rfl L43 (Nat.le_of_ble_eq_true rfl) (Nat.le_of_ble_eq_true rfl) g (Nat.zero_le _) (Nat.zero_le _) rfl rfl rfl (b_Mill_inlined (by omega) h) (fun x1 M1 h => ?_)
        refine f_aload_n (kd84 rfl) rfl rfl ?_
        refine f_aload_n (kd84 rfl) rfl rfl ?_
        refine f_iload (kd84 rfl) rfl rfl ?_
        refine f_iconst (kd84 rfl) (y := 1) (by decide) rfl ?_
        refine f_iadd (kd84 rfl) rfl ?_
        obtain ⟨g, h⟩ := h
        refine f_iaload (kd84 rfl) g rfl ?_
        refine f_aload_n (kd84 rfl) rfl rfl ?_
        refine f_iload (kd84 rfl) rfl rfl ?_
        refine f_iconst (kd84 rfl) (y := 2) (by decide) rfl ?_
        refine f_iadd (kd84 rfl) rfl ?_
        obtain ⟨g, h⟩ := h
        refine f_iaload (kd84 rfl) g rfl ?_
        refine f_aload_n (kd84 rfl) rfl rfl ?_
        refine f_iload (kd84 rfl) rfl rfl ?_
        refine f_iconst (kd84 rfl) (y := 3) (by decide) rfl ?_
        refine f_iadd (kd84 rfl) rfl ?_
        obtain ⟨g, h⟩ := h
        refine f_iaload (kd84 rfl) g rfl ?_
        obtain ⟨g, h⟩ := h
        refine f_callVI (d' := d - 1) (by omega) (kd84 rfl) (by decide) rfl rfl rfl rfl (Nat.le_of_ble_eq_true rfl) rfl L75 (Nat.le_of_ble_eq_true rfl) (Nat.le_of_ble_eq_true rfl) g (Nat.zero_le _) (Nat.zero_le _) rfl rfl rfl (b_Mod_inlined (by omega) h) (fun x1 M1 h => ?_)
        refine f_icmp_eq (kd84 rfl) rfl (fun c => ?_) (fun c => ?_)
        · have h := h.1 c
          exact (b_Law_law_1023 hd hk23 h).less (e_sc (List.mem_of_getElem? (i := 0) rfl) (e_sc (List.mem_of_getElem? (i := 1) rfl) (e_sc (List.mem_of_getElem? (i := 2) rfl) (e_sc (List.mem_of_getElem? (i := 3) rfl) (e_sc (List.mem_of_getElem? (i := 4) rfl) e_sn)))))
        · have h := h.2 c
          refine f_iconst (kd84 rfl) (y := 0) (by decide) rfl ?_
          exact f_zreturn (kd84 rfl) R84 h.1 h.2
      have h := h.2 c
      refine ⟨fun c => ?_, fun c => ?_⟩
      · have h := h.1 c
        refine f_aload_n (kd84 rfl) rfl rfl ?_
        refine f_aload_n (kd84 rfl) rfl rfl ?_
        refine f_iload (kd84 rfl) rfl rfl ?_
        refine f_iconst (kd84 rfl) (y := 1) (by decide) rfl ?_
        refine f_iadd (kd84 rfl) rfl ?_
        obtain ⟨g, h⟩ := h
        refine f_iaload (kd84 rfl) g rfl ?_
        refine f_aload_n (kd84 rfl) rfl rfl ?_
        refine f_iload (kd84 rfl) rfl rfl ?_
        refine f_iconst (kd84 rfl) (y := 2) (by decide) rfl ?_
        refine f_iadd (kd84 rfl) rfl ?_
        obtain ⟨g, h⟩ := h
        refine f_iaload (kd84 rfl) g rfl ?_
        refine f_aload_n (kd84 rfl) rfl rfl ?_
        refine f_iload (kd84 rfl) rfl rfl ?_
        refine f_iconst (kd84 rfl) (y := 3) (by decide) rfl ?_
        refine f_iadd (kd84 rfl) rfl ?_
        obtain ⟨g, h⟩ := h
        refine f_iaload (kd84 rfl) g rfl ?_
        obtain ⟨g, h⟩ := h
        refine f_callVI (d' := d - 1) (by omega) (kd84 rfl) (by decide) rfl rfl rfl rfl (Nat.le_of_ble_eq_true rfl) rfl L44 (Nat.le_of_ble_eq_true rfl) (Nat.le_of_ble_eq_true rfl) g (Nat.zero_le _) (Nat.zero_le _) rfl rfl rfl (b_Mill_profile (by omega) h) (fun x1 M1 h => ?_)
        refine f_aload_n (kd84 rfl) rfl rfl ?_
        refine f_aload_n (kd84 rfl) rfl rfl ?_
        refine f_iload (kd84 rfl) rfl rfl ?_
        refine f_iconst (kd84 rfl) (y := 1) (by decide) rfl ?_
        refine f_iadd (kd84 rfl) rfl ?_
        obtain ⟨g, h⟩ := h
        refine f_iaload (kd84 rfl) g rfl ?_
        refine f_aload_n (kd84 rfl) rfl rfl ?_
        refine f_iload (kd84 rfl) rfl rfl ?_
        refine f_iconst (kd84 rfl) (y := 2) (by decide) rfl ?_
        refine f_iadd (kd84 rfl) rfl ?_
        obtain ⟨g, h⟩ := h
        refine f_iaload (kd84 rfl) g rfl ?_
        refine f_aload_n (kd84 rfl) rfl rfl ?_
        refine f_iload (kd84 rfl) rfl rfl ?_
        refine f_iconst (kd84 rfl) (y := 3) (by decide) rfl ?_
        refine f_iadd (kd84 rfl) rfl ?_
        obtain ⟨g, h⟩ := h
        refine f_iaload (kd84 rfl) g rfl ?_
        obtain ⟨g, h⟩ := h
        refine f_callVI (d' := d - 1) (by omega) (kd84 rfl) (by decide) rfl rfl rfl rfl (Nat.le_of_ble_eq_true rfl) rfl L76 (Nat.le_of_ble_eq_true rfl) (Nat.le_of_ble_eq_true rfl) g (Nat.zero_le _) (Nat.zero_le _) rfl rfl rfl (b_Mod_profile (by omega) h) (fun x1 M1 h => ?_)
        refine f_icmp_eq (kd84 rfl) rfl (fun c => ?_) (fun c => ?_)
        · have h := h.1 c
          exact (b_Law_law_1023 hd hk23 h).less (e_sc (List.mem_of_getElem? (i := 0) rfl) (e_sc (List.mem_of_getElem? (i := 1) rfl) (e_sc (List.mem_of_getElem? (i := 2) rfl) (e_sc (List.mem_of_getElem? (i := 3) rfl) (e_sc (List.mem_of_getElem? (i := 4) rfl) e_sn)))))
        · have h := h.2 c
          refine f_iconst (kd84 rfl) (y := 0) (by decide) rfl ?_
          exact f_zreturn (kd84 rfl) R84 h.1 h.2
      have h := h.2 c
      refine ⟨fun c => ?_, fun c => ?_⟩
      · have h := h.1 c
        refine f_aload_n (kd84 rfl) rfl rfl ?_
        refine f_aload_n (kd84 rfl) rfl rfl ?_
        refine f_iload (kd84 rfl) rfl rfl ?_
        refine f_iconst (kd84 rfl) (y := 1) (by decide) rfl ?_
        refine f_iadd (kd84 rfl) rfl ?_
        obtain ⟨g, h⟩ := h
        refine f_iaload (kd84 rfl) g rfl ?_
        refine f_aload_n (kd84 rfl) rfl rfl ?_
        refine f_iload (kd84 rfl) rfl rfl ?_
        refine f_iconst (kd84 rfl) (y := 2) (by decide) rfl ?_
        refine f_iadd (kd84 rfl) rfl ?_
        obtain ⟨g, h⟩ := h
        refine f_iaload (kd84 rfl) g rfl ?_
        obtain ⟨g, h⟩ := h
        refine f_callVI (d' := d - 1) (by omega) (kd84 rfl) (by decide) rfl rfl rfl rfl (Nat.le_of_ble_eq_true rfl) rfl L45 (Nat.le_of_ble_eq_true rfl) (Nat.le_of_ble_eq_true rfl) g (Nat.zero_le _) (Nat.zero_le _) rfl rfl rfl (b_Mill_log (by omega) h) (fun x1 M1 h => ?_)
        refine f_aload_n (kd84 rfl) rfl rfl ?_
        refine f_aload_n (kd84 rfl) rfl rfl ?_
        refine f_iload (kd84 rfl) rfl rfl ?_
        refine f_iconst (kd84 rfl) (y := 1) (by decide) rfl ?_
        refine f_iadd (kd84 rfl) rfl ?_
        obtain ⟨g, h⟩ := h
        refine f_iaload (kd84 rfl) g rfl ?_
        refine f_aload_n (kd84 rfl) rfl rfl ?_
        refine f_iload (kd84 rfl) rfl rfl ?_
        refine f_iconst (kd84 rfl) (y := 2) (by decide) rfl ?_
        refine f_iadd (kd84 rfl) rfl ?_
        obtain ⟨g, h⟩ := h
        refine f_iaload (kd84 rfl) g rfl ?_
        obtain ⟨g, h⟩ := h
        refine f_callVI (d' := d - 1) (by omega) (kd84 rfl) (by decide) rfl rfl rfl rfl (Nat.le_of_ble_eq_true rfl) rfl L77 (Nat.le_of_ble_eq_true rfl) (Nat.le_of_ble_eq_true rfl) g (Nat.zero_le _) (Nat.zero_le _) rfl rfl rfl (b_Mod_log (by omega) h) (fun x1 M1 h => ?_)
        refine f_icmp_eq (kd84 rfl) rfl (fun c => ?_) (fun c => ?_)
        · have h := h.1 c
          exact (b_Law_law_1023 hd hk23 h).less (e_sc (List.mem_of_getElem? (i := 0) rfl) (e_sc (List.mem_of_getElem? (i := 1) rfl) (e_sc (List.mem_of_getElem? (i := 2) rfl) (e_sc (List.mem_of_getElem? (i := 3) rfl) (e_sc (List.mem_of_getElem? (i := 4) rfl) e_sn)))))
        · have h := h.2 c
          refine f_iconst (kd84 rfl) (y := 0) (by decide) rfl ?_
          exact f_zreturn (kd84 rfl) R84 h.1 h.2
      have h := h.2 c
      refine ⟨fun c => ?_, fun c => ?_⟩
      · have h := h.1 c
        refine f_aload_n (kd84 rfl) rfl rfl ?_
        refine f_aload_n (kd84 rfl) rfl rfl ?_
        refine f_iload (kd84 rfl) rfl rfl ?_
        refine f_iconst (kd84 rfl) (y := 1) (by decide) rfl ?_
        refine f_iadd (kd84 rfl) rfl ?_
        obtain ⟨g, h⟩ := h
        refine f_iaload (kd84 rfl) g rfl ?_
        obtain ⟨g, h⟩ := h
        refine f_callVI (d' := d - 1) (by omega) (kd84 rfl) (by decide) rfl rfl rfl rfl (Nat.le_of_ble_eq_true rfl) rfl L46 (Nat.le_of_ble_eq_true rfl) (Nat.le_of_ble_eq_true rfl) g (Nat.zero_le _) (Nat.zero_le _) rfl rfl rfl (b_Mill_total (by omega) h) (fun x1 M1 h => ?_)
        refine f_aload_n (kd84 rfl) rfl rfl ?_
        refine f_aload_n (kd84 rfl) rfl rfl ?_
        refine f_iload (kd84 rfl) rfl rfl ?_
        refine f_iconst (kd84 rfl) (y := 1) (by decide) rfl ?_
        refine f_iadd (kd84 rfl) rfl ?_
        obtain ⟨g, h⟩ := h
        refine f_iaload (kd84 rfl) g rfl ?_
        obtain ⟨g, h⟩ := h
        refine f_callVI (d' := d - 1) (by omega) (kd84 rfl) (by decide) rfl rfl rfl rfl (Nat.le_of_ble_eq_true rfl) rfl L78 (Nat.le_of_ble_eq_true rfl) (Nat.le_of_ble_eq_true rfl) g (Nat.zero_le _) (Nat.zero_le _) rfl rfl rfl (b_Mod_total (by omega) h) (fun x1 M1 h => ?_)
        refine f_icmp_eq (kd84 rfl) rfl (fun c => ?_) (fun c => ?_)
        · have h := h.1 c
          exact (b_Law_law_1023 hd hk23 h).less (e_sc (List.mem_of_getElem? (i := 0) rfl) (e_sc (List.mem_of_getElem? (i := 1) rfl) (e_sc (List.mem_of_getElem? (i := 2) rfl) (e_sc (List.mem_of_getElem? (i := 3) rfl) (e_sc (List.mem_of_getElem? (i := 4) rfl) e_sn)))))
        · have h := h.2 c
          refine f_iconst (kd84 rfl) (y := 0) (by decide) rfl ?_
          exact f_zreturn (kd84 rfl) R84 h.1 h.2
      have h := h.2 c
      show e_F am 84 _ _ _ 1023 _ _ _ _
      exact (b_Law_law_1023 hd hk23 h).less (e_sc (List.mem_of_getElem? (i := 0) rfl) (e_sc (List.mem_of_getElem? (i := 1) rfl) (e_sc (List.mem_of_getElem? (i := 2) rfl) (e_sc (List.mem_of_getElem? (i := 3) rfl) (e_sc (List.mem_of_getElem? (i := 4) rfl) e_sn)))))
set_option maxRecDepth 100000 in
def w_Law_law (kc ks : Nat) (l0 : Nat) (M : eM) (Q : Int32 → eM → Prop) : Prop := 1 ≤ kc ∧ 11 ≤ ks ∧ ∀ M1 : eM, M1 = e_new M 11 0 → e_c0 ≤ M.1 ∧ ∃ kc3 ks4 : Nat, kc3 ≤ (kc - 1) ∧ ks4 ≤ (ks - 11) ∧ w_Mill_init kc3 ks4 M.1 M1 (fun (M2 : eM) => 1 ≤ (kc - 1 - kc3) ∧ 92 ≤ (ks - 11 - ks4) ∧ ∀ M5 : eM, M5 = e_new M2 12 0 → e_c0 ≤ M2.1 ∧ ∃ kc7 ks8 : Nat, kc7 ≤ (kc - 1 - kc3 - 1) ∧ ks8 ≤ (ks - 11 - ks4 - 92) ∧ w_Mod_init kc7 ks8 M2.1 M5 (fun (M6 : eM) => ¬ (1 : Int32) < 0 ∧ (1 : Int32).toNatClampNeg ≤ 400000 ∧ 1 ≤ (kc - 1 - kc3 - 1 - kc7) ∧ (1 : Int32).toNatClampNeg ≤ (ks - 11 - ks4 - 92 - ks8) ∧ ∀ M9 : eM, M9 = e_new M6 21 (1 : Int32).toNatClampNeg → ∃ n10 : Nat, w_Law_law_23 n10 (kc - 1 - kc3 - 1 - kc7 - 1) (ks - 11 - ks4 - 92 - ks8 - (1 : Int32).toNatClampNeg) l0 M.1 M2.1 M6.1 0 M9 Q))
set_option maxRecDepth 100000 in
theorem b_Law_law {am : eAm} {d : Nat} {kc ks : Nat} {l0 : Nat} {M : eM} {Q : Int32 → eM → Prop} (hd : 50 ≤ d) (h : w_Law_law kc ks l0 M Q) : e_F am 84 d kc ks 0 (lv_args 0 [.ref l0]) [] M (e_QI Q) := by
  unfold w_Law_law at h
  show e_F am 84 d kc ks 0 [(0, .ref l0)] [] M (e_QI Q)
  obtain ⟨g1, g2, h⟩ := h
  have h := h _ rfl
  refine f_new (kd84 rfl) (by decide) (n := 11) rfl g1 g2 rfl ?_
  refine f_dup (kd84 rfl) rfl rfl ?_
  obtain ⟨g, h⟩ := h
  obtain ⟨mc, ms, q1, q2, h⟩ := h
  refine f_callIV (d' := d - 1) (by omega) (kd84 rfl) (by decide) rfl rfl rfl rfl (Nat.le_of_ble_eq_true rfl) rfl L24 (Nat.le_of_ble_eq_true rfl) (Nat.le_of_ble_eq_true rfl) g q1 q2 rfl rfl rfl (b_Mill_init (by omega) h) (fun M1 h => ?_)
  refine f_astore_n (kd84 rfl) L84 (by decide) rfl rfl ?_
  obtain ⟨g1, g2, h⟩ := h
  have h := h _ rfl
  refine f_new (kd84 rfl) (by decide) (n := 92) rfl g1 g2 rfl ?_
  refine f_dup (kd84 rfl) rfl rfl ?_
  obtain ⟨g, h⟩ := h
  obtain ⟨mc, ms, q1, q2, h⟩ := h
  refine f_callIV (d' := d - 1) (by omega) (kd84 rfl) (by decide) rfl rfl rfl rfl (Nat.le_of_ble_eq_true rfl) rfl L47 (Nat.le_of_ble_eq_true rfl) (Nat.le_of_ble_eq_true rfl) g q1 q2 rfl rfl rfl (b_Mod_init (by omega) h) (fun M1 h => ?_)
  refine f_astore_n (kd84 rfl) L84 (by decide) rfl rfl ?_
  refine f_iconst (kd84 rfl) (y := 1) (by decide) rfl ?_
  obtain ⟨g0, g3, g1, g2, h⟩ := h
  have h := h _ rfl
  refine f_newarray (kd84 rfl) (by decide) g0 g3 g1 g2 rfl ?_
  refine f_astore_n (kd84 rfl) L84 (by decide) rfl rfl ?_
  refine f_iconst (kd84 rfl) (y := 0) (by decide) rfl ?_
  refine f_istore (kd84 rfl) L84 (by decide) rfl rfl ?_
  obtain ⟨n, h⟩ := h
  exact (b_Law_law_23 hd n _ _ _ _ _ _ _ _ h).less (e_sc (List.mem_of_getElem? (i := 4) rfl) (e_sc (List.mem_of_getElem? (i := 3) rfl) (e_sc (List.mem_of_getElem? (i := 2) rfl) (e_sc (List.mem_of_getElem? (i := 1) rfl) (e_sc (List.mem_of_getElem? (i := 0) rfl) e_sn)))))
