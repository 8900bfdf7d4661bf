/-! ===== pure: the class comes to an instruction ===== -/
def beM (P x : Nat) (h : Int32) (l s : Int64) (M : eM) : eM := e_si (e_si (e_sl (e_sl (e_si M (P + 59) x h) (P + 60) x l) (P + 61) x s) 12 x 1) 11 5 1
abbrev oFi (P x : Nat) : Nat → Nat → Prop := fun a j => (a = P + 59 ∧ j = x) ∨ (a = 12 ∧ j = x) ∨ (a = 11 ∧ j = 5)
abbrev oFl (P x : Nat) : Nat → Nat → Prop := fun a j => (a = P + 60 ∨ a = P + 61) ∧ j = x
theorem beM_fx {P x h l s M} : FX (oFi P x) (oFl P x) M (beM P x h l s M) := by
  unfold beM
  exact FX.si (FX.si (FX.sl (FX.sl (FX.si (FX.rf M) (Or.inl ⟨rfl, rfl⟩)) ⟨Or.inl rfl, rfl⟩) ⟨Or.inr rfl, rfl⟩) (Or.inr (Or.inl ⟨rfl, rfl⟩))) (Or.inr (Or.inr ⟨rfl, rfl⟩))
theorem c_becomes {L xs P x M} {h : Int32} {l s : Int64} {Q : eM → Prop} (hP : PP P) (hY : Y L xs M) (h3 : gr M 11 3 = P) (hx : x < 1500) (hQ : Q (beM P x h l s M)) : w_Verifier_becomes 11 (N x) h l s M Q := by
  have hg := hP.ge
  unfold w_Verifier_becomes
  simp (disch := omega) only [yo11 hY, h3, po hY hP, true_and, pr15 hY hP, pa59 hY hP, N_in, N_nat]
  refine ⟨hx, fun M1 e1 => ?_⟩
  have hY1 : Y L xs M1 := by rw [e1]; exact hY.si (by omega)
  have r1 : gr M1 11 3 = P := by rw [e1]; exact h3
  simp (disch := omega) only [yo11 hY1, r1, po hY1 hP, true_and, pr16 hY1 hP, pa60 hY1 hP, N_in]
  refine ⟨hx, fun M2 e2 => ?_⟩
  have hY2 : Y L xs M2 := by rw [e2]; exact hY1
  have r2 : gr M2 11 3 = P := by rw [e2]; exact r1
  simp (disch := omega) only [yo11 hY2, r2, po hY2 hP, true_and, pr17 hY2 hP, pa61 hY2 hP, N_in]
  refine ⟨hx, fun M3 e3 => ?_⟩
  have hY3 : Y L xs M3 := by rw [e3]; exact hY2
  simp (disch := omega) only [yo11 hY3, true_and, yr11_2 hY3, ya12 hY3, N_in]
  refine ⟨hx, fun M4 e4 => ?_⟩
  have hY4 : Y L xs M4 := by rw [e4]; exact hY3.si (by omega)
  refine ⟨yo11 hY4, Or.inr trivial, fun M5 e5 => ?_⟩
  rw [e5, e4, e3, e2, e1]
  exact hQ
theorem beM_g {P x h l s M} (hP : PP P) : gi (beM P x h l s M) (P + 59) x = h ∧ gl (beM P x h l s M) (P + 60) x = l ∧ gl (beM P x h l s M) (P + 61) x = s ∧ gi (beM P x h l s M) 12 x = 1 ∧ gi (beM P x h l s M) 11 5 = 1 := by
  have hg := hP.ge
  unfold beM
  refine ⟨?_, ?_, ?_, ?_, ?_⟩
  · rw [gd (by omega), gd (by omega), gi_sl, gi_sl, gs]
  · rw [gl_si, gl_si, gld (by omega), gls]
  · rw [gl_si, gl_si, gls]
  · rw [gd (by omega), gs]
  · rw [gs]
theorem beM_RT {P D m t M} {T : Nat → eS} {s : eS} {l k : Int64} (hP : PP P) (hR : RT P D m T M) (hl : 2 ≤ s.1 → PKr l s.2 ∧ PKr k (fun i => s.2 (8 + i))) : RT P D m (upT T t s) (beM P (D 5 m + t) (hI s.1) l k M) := by
  have hg := hP.ge
  obtain ⟨b1, b2, b3, b4, b5⟩ := beM_g (P := P) (x := D 5 m + t) (h := hI s.1) (l := l) (s := k) (M := M) hP
  intro j hj
  by_cases e : j = t
  · subst e
    rw [upT_s, b1, b2, b3]
    exact ⟨rfl, hl⟩
  · rw [upT_d e]
    have f := beM_fx (P := P) (x := D 5 m + t) (h := hI s.1) (l := l) (s := k) (M := M)
    rw [f.gi (by unfold oFi; omega), f.gl (by unfold oFl; omega), f.gl (by unfold oFl; omega)]
    exact hR j hj
theorem hI_inj {a b : Nat} (ha : a < 1000) (hb : b < 1000) : hI a = hI b ↔ a = b := by
  constructor
  · intro h
    unfold hI at h
    by_cases a0 : a = 0
    · by_cases b0 : b = 0
      · omega
      · rw [if_pos a0, if_neg b0] at h
        by_cases b1 : b = 1
        · rw [if_pos b1] at h; exact absurd h (by decide)
        · rw [if_neg b1] at h; exact ((N_neg (by omega)).1 h.symm).elim
    · rw [if_neg a0] at h
      by_cases b0 : b = 0
      · rw [if_pos b0] at h
        by_cases a1 : a = 1
        · rw [if_pos a1] at h; exact absurd h (by decide)
        · rw [if_neg a1] at h; exact ((N_neg (by omega)).1 h).elim
      · rw [if_neg b0] at h
        by_cases a1 : a = 1
        · by_cases b1 : b = 1
          · omega
          · rw [if_pos a1, if_neg b1] at h; exact ((N_neg2 (by omega)).1 h.symm).elim
        · rw [if_neg a1] at h
          by_cases b1 : b = 1
          · rw [if_pos b1] at h; exact ((N_neg2 (by omega)).1 h).elim
          · rw [if_neg b1, N_eq (by omega) (by omega)] at h; omega
  · intro h; rw [h]
theorem wf10 {D} {s : eS} (h : wfS D s) : s.1 ≤ 10 := by
  by_cases c : 2 ≤ s.1
  · exact (h c).1
  · omega
theorem c_comeTo {L xs P D m M t} {T : Nat → eS} {o : eS} (hP : PP P) (hD : KD D) (hm : m < D 0 2) (hV : VC L xs P D m M) (hR : RT P D m T M) (hT : ∀ j, wfS D (T j)) (hC : CUR o M) (ho : wfS D o) (ht : t < D 174 m) :
    ∃ M1, ((M1 = M ∧ leS D o (T t)) ∨ (¬ leS D o (T t) ∧ FX (oFi P (D 5 m + t)) (oFl P (D 5 m + t)) M M1 ∧ RT P D m (upT T t (jS D (T t) o)) M1 ∧ gi M1 12 (D 5 m + t) = 1 ∧ gi M1 11 5 = 1)) ∧ ∀ Q : eM → Prop, Q M1 → w_Verifier_comeTo 11 (N (D 5 m + t)) M Q := by
  have hV0 := hV
  have hg := hP.ge
  obtain ⟨hY, h3, h4, hK, hB⟩ := hV
  obtain ⟨c1, c2, c3⟩ := hC
  have hd := hD.1
  have hC8 := hd.1
  have h2 := (hD.2.2.2.1 m hm).1
  have hx : D 5 m + t < 1500 := by omega
  obtain ⟨r1, r2⟩ := hR t ht
  have wt := hT t
  have w10 := wf10 wt
  have o10 := wf10 ho
  have em1 : gi M (P + 59) (D 5 m + t) = -1 ↔ (T t).1 = 0 := by rw [r1, ← hI0, hI_inj (by omega) (by omega)]
  have em2 : gi M (P + 59) (D 5 m + t) = -2 ↔ (T t).1 = 1 := by rw [r1, ← hI1, hI_inj (by omega) (by omega)]
  have emh : gi M (P + 59) (D 5 m + t) = gi M 11 6 ↔ (T t).1 = o.1 := by rw [r1, c1, hI_inj (by omega) (by omega)]
  have red : ∀ Q : eM → Prop, ((¬ (T t).1 = 0 → ((T t).1 = 1 → w_Verifier_comeTo_61 11 (N (D 5 m + t)) (hI (T t).1) M Q) ∧ (¬ (T t).1 = 1 → ((T t).1 = o.1 → w_Verifier_comeTo_61 11 (N (D 5 m + t)) (hI (T t).1) M Q) ∧ (¬ (T t).1 = o.1 → w_Verifier_becomes 11 (N (D 5 m + t)) (-2) 0 0 M Q))) ∧ ((T t).1 = 0 → w_Verifier_becomes 11 (N (D 5 m + t)) (hI o.1) (gl M 11 7) (gl M 11 8) M Q)) → w_Verifier_comeTo 11 (N (D 5 m + t)) M Q := by
    intro Q h
    unfold w_Verifier_comeTo w_Verifier_comeTo_142
    simp (disch := omega) only [yo11 hY, h3, po hY hP, true_and, pr15 hY hP, pi59 hY hP, N_in, N_nat, em1, em2, emh]
    rw [r1, c1]
    exact ⟨hx, h⟩
  by_cases t0 : (T t).1 = 0
  · refine ⟨beM P (D 5 m + t) (hI o.1) (gl M 11 7) (gl M 11 8) M, Or.inr ⟨?_, beM_fx, ?_, (beM_g hP).2.2.2.1, (beM_g hP).2.2.2.2⟩, fun Q hQ => red Q ⟨fun z => absurd t0 z, fun _ => c_becomes hP hY h3 hx hQ⟩⟩
    · rintro (z | z | ⟨z, z2, _⟩)
      · exact c2 z
      · omega
      · omega
    · have : jS D (T t) o = o := by unfold jS; rw [if_pos t0]
      rw [this]
      exact beM_RT hP hR c3
  · by_cases t1 : (T t).1 = 1
    · refine ⟨M, Or.inl ⟨rfl, Or.inr (Or.inl t1)⟩, fun Q hQ => red Q ⟨fun _ => ⟨fun _ => ⟨fun _ => hQ, fun z => ?_⟩, fun z => absurd t1 z⟩, fun z => absurd z t0⟩⟩
      rw [t1] at z; exact absurd rfl z
    · by_cases te : (T t).1 = o.1
      · obtain ⟨v1, v2, v3⟩ := wt (by omega)
        obtain ⟨u1, u2, u3⟩ := ho (by omega)
        obtain ⟨k7, k8⟩ := c3 (by omega)
        obtain ⟨q7, q8⟩ := r2 (by omega)
        obtain ⟨zl, zl1, zl2⟩ := c_joined hP hD hV0 q7 k7 (fun i hi => v2 i (by omega)) (fun i hi => u2 i (by omega))
        obtain ⟨zs, zs1, zs2⟩ := c_joined hP hD hV0 q8 k8 (fun i hi => v2 (8 + i) (by omega)) (fun i hi => u2 (8 + i) (by omega))
        have l256 : ∀ i, i < 16 → jn D ((T t).2 i) (o.2 i) < 256 ∧ (T t).2 i < 256 := fun i hi => by
          have := vk_lt hC8 (jn_vk hC8 hD.cl (v2 i hi) (u2 i hi))
          have := vk_lt hC8 (v2 i hi)
          omega
        have el : zl = gl M (P + 60) (D 5 m + t) ↔ ∀ i, i < 8 → jn D ((T t).2 i) (o.2 i) = (T t).2 i := by
          rw [zk_eq zl1 q7 (fun i hi => by show (if i < 8 then _ else _) < 256; rw [if_pos hi]; exact (l256 i (by omega)).1) (fun i hi => (l256 i (by omega)).2)]
          exact ⟨fun h i hi => by have := h i hi; rw [if_pos hi] at this; exact this, fun h i hi => by show (if i < 8 then _ else _) = _; rw [if_pos hi]; exact h i hi⟩
        have es : zs = gl M (P + 61) (D 5 m + t) ↔ ∀ i, i < 8 → jn D ((T t).2 (8 + i)) (o.2 (8 + i)) = (T t).2 (8 + i) := by
          rw [zk_eq zs1 q8 (fun i hi => by show (if i < 8 then _ else _) < 256; rw [if_pos hi]; exact (l256 (8 + i) (by omega)).1) (fun i hi => (l256 (8 + i) (by omega)).2)]
          exact ⟨fun h i hi => by have := h i hi; rw [if_pos hi] at this; exact this, fun h i hi => by show (if i < 8 then _ else _) = _; rw [if_pos hi]; exact h i hi⟩
        have red2 : ∀ Q : eM → Prop, ((¬ zl = gl M (P + 60) (D 5 m + t) → w_Verifier_becomes 11 (N (D 5 m + t)) (hI (T t).1) zl zs M Q) ∧ (zl = gl M (P + 60) (D 5 m + t) → (zs = gl M (P + 61) (D 5 m + t) → Q M) ∧ (¬ zs = gl M (P + 61) (D 5 m + t) → w_Verifier_becomes 11 (N (D 5 m + t)) (hI (T t).1) zl zs M Q))) → w_Verifier_comeTo 11 (N (D 5 m + t)) M Q := by
          intro Q h
          refine red Q ⟨fun _ => ⟨fun z => absurd z t1, fun _ => ⟨fun _ => ⟨fun z => ?_, fun _ => ?_⟩, fun z => absurd te z⟩⟩, fun z => absurd z t0⟩
          · rw [hI2 (by omega)] at z; exact ((N_neg2 (by omega)).1 z).elim
          · simp (disch := omega) only [yo11 hY, h3, po hY hP, true_and, pr16 hY hP, pa60 hY hP, N_in, N_nat]
            refine ⟨hx, zl2 _ ?_⟩
            simp (disch := omega) only [yo11 hY, h3, po hY hP, true_and, pr17 hY hP, pa61 hY hP, N_in, N_nat]
            refine ⟨hx, zs2 _ ?_⟩
            simp (disch := omega) only [yo11 hY, h3, po hY hP, true_and, pr16 hY hP, pr17 hY hP, pa60 hY hP, pa61 hY hP, N_in, N_nat, lg0, w_Verifier_comeTo_133, w_Verifier_comeTo_142]
            exact ⟨hx, h.1, fun e => ⟨hx, h.2 e⟩⟩
        by_cases eq : ∀ i, i < 16 → jn D ((T t).2 i) (o.2 i) = (T t).2 i
        · refine ⟨M, Or.inl ⟨rfl, Or.inr (Or.inr ⟨by omega, te.symm, fun i hi => ?_⟩)⟩, fun Q hQ => red2 Q ⟨fun z => absurd (el.2 fun i hi => eq i (by omega)) z, fun _ => ⟨fun _ => hQ, fun z => absurd (es.2 fun i hi => eq (8 + i) (by omega)) z⟩⟩⟩
          have := (jn_ub hC8 hD.cl (v2 i hi) (u2 i hi)).2
          rw [eq i hi] at this
          exact this
        · refine ⟨beM P (D 5 m + t) (hI (T t).1) zl zs M, Or.inr ⟨?_, beM_fx, ?_, (beM_g hP).2.2.2.1, (beM_g hP).2.2.2.2⟩, fun Q hQ => red2 Q ⟨fun _ => c_becomes hP hY h3 hx hQ, fun e1 => ⟨fun e2 => ?_, fun _ => c_becomes hP hY h3 hx hQ⟩⟩⟩
          · rintro (z | z | ⟨z, z2, z3⟩)
            · exact c2 z
            · omega
            · apply eq
              intro i hi
              exact leK_as hC8 hD.cl (jn_vk hC8 hD.cl (v2 i hi) (u2 i hi)) (v2 i hi) (jn_lub hC8 hD.cl (v2 i hi) (u2 i hi) (v2 i hi) (leK_rf _) (z3 i hi)) (jn_ub hC8 hD.cl (v2 i hi) (u2 i hi)).1
          · have : jS D (T t) o = ((T t).1, fun i => if i < 16 then jn D ((T t).2 i) (o.2 i) else 0) := by unfold jS; rw [if_neg t0, if_neg t1, if_pos te]
            rw [this]
            refine beM_RT (s := ((T t).1, fun i => if i < 16 then jn D ((T t).2 i) (o.2 i) else 0)) hP hR (fun _ => ⟨zk_cg zl1 fun i hi => ?_, zk_cg zs1 fun i hi => ?_⟩)
            · show (if i < 8 then _ else _) = if i < 16 then _ else _
              rw [if_pos hi, if_pos (by omega)]
            · show (if i < 8 then _ else _) = if 8 + i < 16 then _ else _
              rw [if_pos hi, if_pos (by omega)]
          · exfalso
            apply eq
            intro i hi
            by_cases c : i < 8
            · exact el.1 e1 i c
            · have := es.1 e2 (i - 8) (by omega)
              rw [show 8 + (i - 8) = i by omega] at this
              exact this
      · refine ⟨beM P (D 5 m + t) (-2) 0 0 M, Or.inr ⟨?_, beM_fx, ?_, (beM_g hP).2.2.2.1, (beM_g hP).2.2.2.2⟩, fun Q hQ => red Q ⟨fun _ => ⟨fun z => absurd z t1, fun _ => ⟨fun z => absurd z te, fun _ => c_becomes hP hY h3 hx hQ⟩⟩, fun z => absurd z t0⟩⟩
        · rintro (z | z | ⟨z, z2, _⟩)
          · exact c2 z
          · omega
          · omega
        · have : jS D (T t) o = (1, fun _ => 0) := by unfold jS; rw [if_neg t0, if_neg t1, if_neg te]
          rw [this]
          exact beM_RT (s := (1, fun _ => 0)) hP hR (fun z => absurd z (by decide))
