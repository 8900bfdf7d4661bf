/-! ===== pure: the class goes behind an instruction ===== -/
abbrev oGi (P : Nat) (D : eF) (m : Nat) : Nat → Nat → Prop := fun a j => (a = P + 59 ∧ D 5 m ≤ j ∧ j < D 5 m + D 174 m) ∨ a = 12 ∨ (a = 11 ∧ (j = 5 ∨ j = 6))
abbrev oGl (P : Nat) (D : eF) (m : Nat) : Nat → Nat → Prop := fun a j => ((a = P + 60 ∨ a = P + 61) ∧ D 5 m ≤ j ∧ j < D 5 m + D 174 m) ∨ (a = 11 ∧ (j = 7 ∨ j = 8))
/-- the class in its flow: T before each instruction, w what waits -/
def FS (L : Nat) (xs : Nat → Int32) (P : Nat) (D : eF) (m : Nat) (T : Nat → eS) (w : Nat → Nat) (M : eM) : Prop := VC L xs P D m M ∧ RT P D m T M ∧ (∀ j, j < D 174 m → gi M 12 (D 5 m + j) = N (w j)) ∧ (∀ j, w j ≤ 1) ∧ (∀ j, wfS D (T j)) ∧ (∀ j, (T j).1 ≠ 0 → bg D m j) ∧ (∀ j, w j ≠ 0 → (T j).1 ≠ 0) ∧ below D m T
/-- from there to here -/
def GS (P : Nat) (D : eF) (m : Nat) (T : Nat → eS) (w : Nat → Nat) (M : eM) (T1 : Nat → eS) (w1 : Nat → Nat) (M1 : eM) : Prop := FX (oGi P D m) (oGl P D m) M M1 ∧ (∀ j, leS D (T j) (T1 j)) ∧ (∀ j, w1 j = 0 → w j = 0 ∧ T1 j = T j) ∧ ((T1 = T ∧ w1 = w ∧ gi M1 11 5 = gi M 11 5) ∨ (gi M1 11 5 = 1 ∧ muT D m T1 < muT D m T))
theorem GS.rf {P D m T w M} : GS P D m T w M T w M := ⟨FX.rf M, fun j => leS_rf _, fun j h => ⟨h, rfl⟩, Or.inl ⟨rfl, rfl, rfl⟩⟩
theorem GS.t {L xs P D m T w M T1 w1 M1 T2 w2 M2} (hD : KD D) (h : FS L xs P D m T w M) (h1 : FS L xs P D m T1 w1 M1) (h2 : FS L xs P D m T2 w2 M2) (g1 : GS P D m T w M T1 w1 M1) (g2 : GS P D m T1 w1 M1 T2 w2 M2) : GS P D m T w M T2 w2 M2 := by
  obtain ⟨a1, a2, a3, a4⟩ := g1
  obtain ⟨b1, b2, b3, b4⟩ := g2
  refine ⟨a1.t2 b1, fun j => leS_tr hD (h.2.2.2.2.1 j) (h1.2.2.2.2.1 j) (h2.2.2.2.2.1 j) (a2 j) (b2 j), fun j z => ?_, ?_⟩
  · obtain ⟨c1, c2⟩ := b3 j z
    obtain ⟨d1, d2⟩ := a3 j c1
    exact ⟨d1, by rw [c2, d2]⟩
  · rcases b4 with ⟨c1, c2, c3⟩ | ⟨c1, c2⟩
    · subst c1 c2
      rw [c3]
      exact a4
    · refine Or.inr ⟨c1, ?_⟩
      rcases a4 with ⟨d1, d2, d3⟩ | ⟨d1, d2⟩
      · subst d1; exact c2
      · omega
theorem VC.fv {L xs P D m M M'} (hP : PP P) (h : VC L xs P D m M) (hD : KD D) (g : FX (oGi P D m) (oGl P D m) M M') : VC L xs P D m M' := by
  have hg := hP.ge
  exact h.fx hD g (fun a j z => by unfold oGi; omega)
theorem fv_g {P D m M M'} (g : FX oVi oVl M M') : FX (oGi P D m) (oGl P D m) M M' := g.up (fun a j z => Or.inr (Or.inr ⟨z.1, Or.inr z.2⟩)) (fun a j z => Or.inr z)
theorem FS.fv {L xs P D m T w M M'} (hP : PP P) (h : FS L xs P D m T w M) (hD : KD D) (g : FX oVi oVl M M') : FS L xs P D m T w M' ∧ GS P D m T w M T w M' := by
  have hg := hP.ge
  obtain ⟨h1, h2, h3, h4⟩ := h
  refine ⟨⟨h1.fv hP hD (fv_g g), fun j hj => ?_, fun j hj => ?_, h4⟩, fv_g g, fun j => leS_rf _, fun j h => ⟨h, rfl⟩, Or.inl ⟨rfl, rfl, ?_⟩⟩
  · rw [g.gi (by unfold oVi; omega), g.gl (by unfold oVl; omega), g.gl (by unfold oVl; omega)]; exact h2 j hj
  · rw [g.gi (by unfold oVi; omega)]; exact h3 j hj
  · rw [g.gi (by unfold oVi; omega)]
def upW (w : Nat → Nat) (t v : Nat) : Nat → Nat := fun j => if j = t then v else w j
theorem upW_s {w : Nat → Nat} {t v : Nat} : upW w t v t = v := if_pos rfl
theorem upW_d {w : Nat → Nat} {t v j : Nat} (h : j ≠ t) : upW w t v j = w j := if_neg h
theorem c_come2 {L xs P D m M t} {T : Nat → eS} {w : Nat → Nat} {o : eS} (hP : PP P) (hD : KD D) (hm : m < D 0 2) (hF : FS L xs P D m T w M) (hC : CUR o M) (ho : wfS D o) (ht : bg D m t) (hb : ∀ U, Sol D m U → leS D o (U t)) :
    ∃ M1 T1 w1, FS L xs P D m T1 w1 M1 ∧ CUR o M1 ∧ GS P D m T w M T1 w1 M1 ∧ leS D o (T1 t) ∧ ∀ Q : eM → Prop, Q M1 → w_Verifier_comeTo 11 (N (D 5 m + t)) M Q := by
  have hg := hP.ge
  obtain ⟨hV, hR, hw, hw1, hT, hTb, hwT, hbl⟩ := hF
  have tl := bg_lt ht
  obtain ⟨M1, h1, h2⟩ := c_comeTo hP hD hm hV hR hT hC ho tl
  rcases h1 with ⟨e1, e2⟩ | ⟨n1, f1, r1, g1, g2⟩
  · subst e1
    exact ⟨M1, T, w, ⟨hV, hR, hw, hw1, hT, hTb, hwT, hbl⟩, hC, GS.rf, e2, h2⟩
  · obtain ⟨j1, j0, j2, j3, j4⟩ := jS_ok hD (hT t) ho hC.2.1
    have f1' : FX (oGi P D m) (oGl P D m) M M1 := f1.up (fun a j z => by unfold oFi at z; unfold oGi; omega) (fun a j z => by unfold oFl at z; unfold oGl; omega)
    have hV1 := hV.fv hP hD f1'
    have hmu : muT D m (upT T t (jS D (T t) o)) < muT D m T := muT_lt tl (muS_lt hD (hT t) j1 j2 (fun z => n1 (leS_tr hD ho j1 (hT t) j3 z)))
    have hle : ∀ j, leS D (T j) (upT T t (jS D (T t) o) j) := fun j => by
      by_cases e : j = t
      · subst e; rw [upT_s]; exact j2
      · rw [upT_d e]; exact leS_rf _
    refine ⟨M1, upT T t (jS D (T t) o), upW w t 1, ⟨hV1, r1, fun j hj => ?_, fun j => ?_, fun j => ?_, fun j z => ?_, fun j z => ?_, fun U hU j => ?_⟩, ⟨?_, hC.2.1, fun z => ?_⟩, ⟨f1', hle, fun j z => ?_, Or.inr ⟨g2, hmu⟩⟩, ?_, h2⟩
    · by_cases e : j = t
      · subst e; rw [g1, upW_s]; rfl
      · rw [upW_d e, f1.gi (by unfold oFi; omega)]; exact hw j hj
    · by_cases e : j = t
      · rw [e, upW_s]; omega
      · rw [upW_d e]; exact hw1 j
    · by_cases e : j = t
      · subst e; rw [upT_s]; exact j1
      · rw [upT_d e]; exact hT j
    · by_cases e : j = t
      · rw [e]; exact ht
      · rw [upT_d e] at z; exact hTb j z
    · by_cases e : j = t
      · rw [e, upT_s]; exact j0
      · rw [upT_d e]; rw [upW_d e] at z; exact hwT j z
    · by_cases e : j = t
      · subst e; rw [upT_s]; exact j4 _ (hU.1 j) (hbl U hU j) (hb U hU)
      · rw [upT_d e]; exact hbl U hU j
    · rw [f1.gi (by unfold oFi; omega)]; exact hC.1
    · rw [f1.gl (by unfold oFl; omega), f1.gl (by unfold oFl; omega)]; exact hC.2.2 z
    · by_cases e : j = t
      · rw [e, upW_s] at z; omega
      · rw [upW_d e] at z; exact ⟨z, upT_d e⟩
    · rw [upT_s]; exact j3
theorem outS_ex (D : eF) (m j : Nat) (s : eS) (h : s.1 ≠ 0) : ∃ o, outS D m j s o := by
  by_cases h1 : s.1 = 1
  · exact ⟨(1, fun _ => 0), Or.inl ⟨h1, rfl⟩⟩
  · by_cases ok : okH D m j (s.1 - 2)
    · exact ⟨(s.1 - tkD D m j + puD D m j, bhK D m j (s.1 - 2) s.2), Or.inr (Or.inr ⟨by omega, ok, rfl, fun _ _ => rfl⟩)⟩
    · exact ⟨(1, fun _ => 0), Or.inr (Or.inl ⟨by omega, ok, rfl⟩)⟩
theorem out_below {D m j t} {T : Nat → eS} {o : eS} (hD : KD D) (hm : m < D 0 2) (hg : good D m j) (hb : bg D m j) (hT : ∀ j, wfS D (T j)) (hbl : below D m T) (h0 : (T j).1 ≠ 0) (ho : outS D m j (T j) o) (hs : sucD D m j t) : ∀ U, Sol D m U → leS D o (U t) := by
  intro U hU
  have h := hbl U hU j
  have u0 : (U j).1 ≠ 0 := by
    rcases h with z | z | ⟨z1, z2, _⟩
    · exact absurd z h0
    · omega
    · omega
  obtain ⟨o', h'⟩ := outS_ex D m j (U j) u0
  exact leS_tr hD (outS_wf hD hm hg (hT j) ho) (outS_wf hD hm hg (hU.1 j) h') (hU.1 t) (outS_mono (hT j) (hU.1 j) (fun c => ((good_f hD hm hg).2.1 (Or.inl c)).2.2) h h0 ho h') (hU.2.2 j t o' hb u0 hs h')
theorem suc_bg {D m j t} (hD : KD D) (hm : m < D 0 2) (hg : good D m j) (hb : bg D m j) (hs : sucD D m j t) : bg D m t := by
  obtain ⟨g0, g1, g2, g3, g4, g5, g6, g7⟩ := good_f hD hm hg
  rcases hs with ⟨c, i, h1, rfl⟩ | ⟨c1, c2, rfl⟩ | ⟨c1, c2, c3, c4, rfl⟩
  · exact ((g7 c).2.2.2 i h1).2
  · exact (g6 ⟨c1, c2⟩).2
  · obtain ⟨x1, x2, x3⟩ := il_le hg.1
    refine bg_nx (hD.2.2.2.1 m hm).1.2.2.2.2.2.1 hb hg.1 ?_
    by_cases e : j + il D m j = D 174 m
    · have := hg.2.1 e; omega
    · omega
