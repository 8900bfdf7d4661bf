/-! ===== pure: the class's verifier, behind an instruction ===== -/
/-- only ints at places of oi and longs at places of ol may have changed -/
def FX (oi ol : Nat → Nat → Prop) (M M' : eM) : Prop := M'.1 = M.1 ∧ M'.2.1 = M.2.1 ∧ M'.2.2.2.2 = M.2.2.2.2 ∧ (∀ a j, ¬ oi a j → gi M' a j = gi M a j) ∧ ∀ a j, ¬ ol a j → gl M' a j = gl M a j
theorem FX.rf {oi ol : Nat → Nat → Prop} (M : eM) : FX oi ol M M := ⟨rfl, rfl, rfl, fun _ _ _ => rfl, fun _ _ _ => rfl⟩
theorem FX.t2 {oi ol : Nat → Nat → Prop} {M M' M'' : eM} (h : FX oi ol M M') (g : FX oi ol M' M'') : FX oi ol M M'' :=
  ⟨g.1.trans h.1, g.2.1.trans h.2.1, g.2.2.1.trans h.2.2.1, fun a j ha => (g.2.2.2.1 a j ha).trans (h.2.2.2.1 a j ha), fun a j ha => (g.2.2.2.2 a j ha).trans (h.2.2.2.2 a j ha)⟩
theorem FX.up {oi ol oi' ol' : Nat → Nat → Prop} {M M' : eM} (h : FX oi ol M M') (h1 : ∀ a j, oi a j → oi' a j) (h2 : ∀ a j, ol a j → ol' a j) : FX oi' ol' M M' :=
  ⟨h.1, h.2.1, h.2.2.1, fun a j ha => h.2.2.2.1 a j (fun z => ha (h1 a j z)), fun a j ha => h.2.2.2.2 a j (fun z => ha (h2 a j z))⟩
theorem FX.si {oi ol : Nat → Nat → Prop} {M M' : eM} (h : FX oi ol M M') {a j : Nat} {x : Int32} (hs : oi a j) : FX oi ol M (e_si M' a j x) := by
  refine ⟨h.1, h.2.1, h.2.2.1, fun b k hb => ?_, fun b k hb => h.2.2.2.2 b k hb⟩
  rw [← h.2.2.2.1 b k hb, gd]
  rintro ⟨rfl, rfl⟩
  exact hb hs
theorem FX.sl {oi ol : Nat → Nat → Prop} {M M' : eM} (h : FX oi ol M M') {a j : Nat} {x : Int64} (hs : ol a j) : FX oi ol M (e_sl M' a j x) := by
  refine ⟨h.1, h.2.1, h.2.2.1, fun b k hb => h.2.2.2.1 b k hb, fun b k hb => ?_⟩
  rw [← h.2.2.2.2 b k hb, gl_sl, if_neg]
  rintro ⟨rfl, rfl⟩
  exact hb hs
theorem FX.gi {oi ol : Nat → Nat → Prop} {M M' : eM} (h : FX oi ol M M') {a j : Nat} (hs : ¬ oi a j) : gi M' a j = gi M a j := h.2.2.2.1 a j hs
theorem FX.gl {oi ol : Nat → Nat → Prop} {M M' : eM} (h : FX oi ol M M') {a j : Nat} (hs : ¬ ol a j) : gl M' a j = gl M a j := h.2.2.2.2 a j hs
theorem FX.gr {oi ol : Nat → Nat → Prop} {M M' : eM} (h : FX oi ol M M') (a j : Nat) : gr M' a j = gr M a j := congrFun (congrFun h.2.2.1 a) j
theorem FX.fi {oi ol : Nat → Nat → Prop} {M M' : eM} (h : FX oi ol M M') : FI oi M (M'.1, M'.2.1, M'.2.2.1, M.2.2.2.1, M'.2.2.2.2) := ⟨h.1, h.2.1, rfl, h.2.2.1, h.2.2.2.1⟩
theorem FI.fx {oi ol : Nat → Nat → Prop} {M M' : eM} (h : FI oi M M') : FX oi ol M M' := ⟨h.1, h.2.1, h.2.2.2.1, h.2.2.2.2, fun a j _ => h.gl a j⟩
theorem FX.Y {oi ol : Nat → Nat → Prop} {L xs} {M M' : eM} (h : FX oi ol M M') (hs : ∀ a j, a < 8 → ¬ oi a j) (hY : Y L xs M) : Y L xs M' := (h.fi).Y hs hY
theorem KC.fx {oi ol : Nat → Nat → Prop} {P D M M'} (h : KC P D M) (hD : KD D) (g : FX oi ol M M') (ho : ∀ a j, (a = P ∧ (j = 1 ∨ j = 2 ∨ j = 7 ∨ j = 9)) ∨ (P + 1 ≤ a ∧ a ≤ P + 56) → ¬ oi a j) : KC P D M' := KC.fi (M' := (M'.1, M'.2.1, M'.2.2.1, M.2.2.2.1, M'.2.2.2.2)) h hD g.fi ho
theorem Y.sl {L xs} {M : eM} (h : Y L xs M) {a j : Nat} {x : Int64} : Y L xs (e_sl M a j x) := h
theorem ob_sl (M : eM) (a j : Nat) (x : Int64) (o c : Nat) : e_ob (e_sl M a j x) o c = e_ob M o c := rfl
theorem gls (M : eM) (a j : Nat) (x : Int64) : gl (e_sl M a j x) a j = x := by rw [gl_sl, if_pos ⟨rfl, rfl⟩]
theorem gld {M : eM} {a j : Nat} {x : Int64} {b k : Nat} (h : ¬ (b = a ∧ k = j)) : gl (e_sl M a j x) b k = gl M b k := by rw [gl_sl, if_neg h]
/-- good instructions name what there is -/
theorem good_f {D m j} (hD : KD D) (hm : m < D 0 2) (hg : good D m j) : cdD D m j ≤ 53 ∧ (cdD D m j = 3 ∨ cdD D m j = 4 ∨ cdD D m j = 20 → j + 1 < D 174 m ∧ cdD D m (j + 1) < D 172 m ∧ cdD D m (j + 1) < 8) ∧ (cdD D m j = 38 ∨ cdD D m j = 45 ∨ cdD D m j = 46 → j + 1 < D 174 m ∧ cdD D m (j + 1) < D 0 0) ∧ (cdD D m j = 39 ∨ cdD D m j = 40 → j + 2 < D 174 m ∧ cdD D m (j + 1) < D 0 0 ∧ cdD D m (j + 2) < D 164 (cdD D m (j + 1)) ∧ D 164 (cdD D m (j + 1)) ≤ 8) ∧ (cdD D m j = 47 → j + 1 < D 174 m ∧ cdD D m (j + 1) < D 0 2) ∧ (cdD D m j = 48 → j + 1 < D 174 m ∧ cdD D m (j + 1) < D 0 1) ∧ (21 ≤ cdD D m j ∧ cdD D m j ≤ 37 → j + 1 < D 174 m ∧ bg D m (cdD D m (j + 1))) ∧ (cdD D m j = 53 → j + 1 < D 174 m ∧ 1 ≤ cdD D m (j + 1) ∧ cdD D m (j + 1) ≤ 8 ∧ ∀ i, i ≤ cdD D m (j + 1) → j + 2 + i < D 174 m ∧ bg D m (cdD D m (j + 2 + i))) := by
  obtain ⟨h1, h2, h3, h4, h5, h6, h7, h8, h9⟩ := hg
  have hl := (il_le h1).2
  have hm2 := (hD.2.2.2.1 m hm).1
  have hsz : cdD D m j ≠ 53 → il D m j = szN.getD (cdD D m j) 0 ∧ cdD D m j < 53 := fun z => il_sz h1 z
  refine ⟨hl.2, fun c => ?_, fun c => ?_, fun c => ?_, fun c => ?_, fun c => ?_, fun c => ?_, fun c => ?_⟩
  · obtain ⟨s1, s2⟩ := hsz (by omega)
    have : 2 ≤ il D m j := by
      rw [s1]
      by_cases e : cdD D m j = 20
      · have := sz3 _ s2 (Or.inr (Or.inr (Or.inl e))); omega
      · have := sz2 _ s2 (by omega); omega
    have := h5 c
    exact ⟨by omega, this, by omega⟩
  · obtain ⟨s1, s2⟩ := hsz (by omega)
    have := sz2 _ s2 (by omega)
    exact ⟨by omega, h6 c⟩
  · obtain ⟨s1, s2⟩ := hsz (by omega)
    have := sz3 _ s2 (by omega)
    have x := h7 c
    exact ⟨by omega, x.1, x.2, (hD.2.1 _ x.1).1.2.2.2⟩
  · obtain ⟨s1, s2⟩ := hsz (by omega)
    have := sz2 _ s2 (by omega)
    exact ⟨by omega, h8 c⟩
  · obtain ⟨s1, s2⟩ := hsz (by omega)
    have := sz2 _ s2 (by omega)
    exact ⟨by omega, h9 c⟩
  · obtain ⟨s1, s2⟩ := hsz (by omega)
    have := sz2 _ s2 (by omega)
    exact ⟨by omega, h4 c⟩
  · obtain ⟨x1, x2, x3⟩ := h3 c
    obtain ⟨y1, y2⟩ := il_53 h1 c
    exact ⟨y2, x1, x2, fun i hi => ⟨by omega, x3 i hi⟩⟩
theorem tk_le {D m j} (hD : KD D) (hm : m < D 0 2) (hg : good D m j) : tkD D m j ≤ 4 ∧ puD D m j ≤ 2 ∧ (cdD D m j = 47 ∨ cdD D m j = 48 → vt (D 0 0) 0 (rtD D m j)) := by
  obtain ⟨g0, g1, g2, g3, g4, g5, g6, g7⟩ := good_f hD hm hg
  unfold tkD puD rtD
  by_cases e : cdD D m j = 47
  · rw [if_pos e, if_pos (Or.inl e), if_pos e]
    have := (hD.2.2.2.1 _ (g4 e).2)
    refine ⟨this.1.1, ?_, fun _ => this.2.1⟩
    split <;> omega
  · rw [if_neg e, if_neg e]
    by_cases e2 : cdD D m j = 48
    · rw [if_pos e2, if_pos (Or.inr e2)]
      have := (hD.2.2.1 _ (g5 e2).2)
      refine ⟨by omega, ?_, fun _ => this.2.1⟩
      split <;> omega
    · rw [if_neg e2, if_neg (by omega)]
      have := (tkN_ok (cdD D m j) (by omega)).2.2
      exact ⟨by omega, by omega, fun z => by omega⟩
theorem kp_vk {D m j} (hD : KD D) (hm : m < D 0 2) (hg : good D m j) : vk (D 0 0) (kpD D m j) ∧ kpD D m j < 256 := by
  obtain ⟨g0, g1, g2, g3, g4, g5, g6, g7⟩ := good_f hD hm hg
  have hC := hD.1.1
  have ht := (tk_le hD hm hg).2.2
  have hv : vk (D 0 0) (kpD D m j) := by
    unfold kpD
    by_cases e1 : cdD D m j = 2
    · rw [if_pos e1]; unfold vk; omega
    rw [if_neg e1]
    by_cases e2 : cdD D m j = 38 ∨ cdD D m j = 46
    · rw [if_pos e2]; have := (g2 (by omega)).2; unfold vk; omega
    rw [if_neg e2]
    by_cases e3 : cdD D m j = 39
    · rw [if_pos e3]
      obtain ⟨x1, x2, x3, x4⟩ := g3 (by omega)
      have := (hD.2.1 _ x2).2 _ x3
      unfold vt at this; unfold vk; omega
    rw [if_neg e3]
    by_cases e4 : cdD D m j = 41
    · rw [if_pos e4]; unfold vk; omega
    rw [if_neg e4]
    by_cases e5 : cdD D m j = 47 ∨ cdD D m j = 48
    · rw [if_pos e5]; have := ht e5; unfold vt at this; unfold vk; omega
    · rw [if_neg e5]; unfold vk; omega
  refine ⟨hv, ?_⟩
  unfold vk at hv; omega
theorem bhK_cs {D m j h} {k : Nat → Nat} {i : Nat} {R : Nat → Prop} (h3 : cdD D m j = 3 → i = 8 + h → R (k (cdD D m (j + 1)))) (h4 : cdD D m j = 4 → i = cdD D m (j + 1) → R (k (8 + h - 1))) (h6 : cdD D m j = 6 → i = 8 + h - 1 ∨ i = 8 + h → R (k (8 + h - 1))) (h7 : cdD D m j = 7 → i = 8 + h - 2 → R (k (8 + h - 1))) (h8 : cdD D m j = 7 → i = 8 + h - 1 → R (k (8 + h - 2))) (h9 : puD D m j = 1 → i = 8 + (h - tkD D m j) → R (kpD D m j)) (h0 : 8 + (h - tkD D m j) ≤ i → R 0) (h1 : i < 8 + (h - tkD D m j) → R (k i)) : R (bhK D m j h k i) := by
  unfold bhK
  by_cases c1 : cdD D m j = 3 ∧ i = 8 + h
  · rw [if_pos c1]; exact h3 c1.1 c1.2
  rw [if_neg c1]
  by_cases c2 : cdD D m j = 4 ∧ i = cdD D m (j + 1)
  · rw [if_pos c2]; exact h4 c2.1 c2.2
  rw [if_neg c2]
  by_cases c3 : cdD D m j = 6 ∧ (i = 8 + h - 1 ∨ i = 8 + h)
  · rw [if_pos c3]; exact h6 c3.1 c3.2
  rw [if_neg c3]
  by_cases c4 : cdD D m j = 7 ∧ i = 8 + h - 2
  · rw [if_pos c4]; exact h7 c4.1 c4.2
  rw [if_neg c4]
  by_cases c5 : cdD D m j = 7 ∧ i = 8 + h - 1
  · rw [if_pos c5]; exact h8 c5.1 c5.2
  rw [if_neg c5]
  by_cases c6 : (cdD D m j ≠ 3 ∧ cdD D m j ≠ 4 ∧ cdD D m j ≠ 6 ∧ cdD D m j ≠ 7) ∧ puD D m j = 1 ∧ i = 8 + (h - tkD D m j)
  · rw [if_pos c6]; exact h9 c6.2.1 c6.2.2
  rw [if_neg c6]
  by_cases c7 : 8 + (h - tkD D m j) ≤ i
  · rw [if_pos c7]; exact h0 c7
  · rw [if_neg c7]; exact h1 (by omega)
theorem p3467 {D m j} : (cdD D m j = 3 → tkD D m j = 0 ∧ puD D m j = 1) ∧ (cdD D m j = 4 → tkD D m j = 1 ∧ puD D m j = 0) ∧ (cdD D m j = 6 → tkD D m j = 1 ∧ puD D m j = 2) ∧ (cdD D m j = 7 → tkD D m j = 2 ∧ puD D m j = 2) := by
  unfold tkD puD
  refine ⟨fun e => ?_, fun e => ?_, fun e => ?_, fun e => ?_⟩ <;> rw [e] <;> exact ⟨rfl, rfl⟩
theorem outS_wf {D m j} (hD : KD D) (hm : m < D 0 2) (hg : good D m j) {s o : eS} (hs : wfS D s) (h : outS D m j s o) : wfS D o := by
  intro h2
  rcases h with ⟨a, b⟩ | ⟨a, b, c⟩ | ⟨a, b, c, d⟩
  · omega
  · omega
  · have hm2 := (hD.2.2.2.1 m hm).1.2.2.2.1
    obtain ⟨w1, w2, w3⟩ := hs a
    obtain ⟨b1, b2⟩ := b
    have g1 := (good_f hD hm hg).2.1
    obtain ⟨p3, p4, p6, p7⟩ := p3467 (D := D) (m := m) (j := j)
    have hkp := (kp_vk hD hm hg).1
    refine ⟨by omega, fun i hi => ?_, fun i h3 hi => ?_⟩
    · rw [d i hi]
      refine bhK_cs (R := fun x => vk (D 0 0) x) (fun e _ => w2 _ ?_) (fun e _ => w2 _ ?_) (fun e _ => w2 _ ?_) (fun e _ => w2 _ ?_) (fun e _ => w2 _ ?_) (fun _ _ => hkp) (fun _ => Or.inl rfl) (fun _ => w2 i hi)
      · have := g1 (Or.inl e); omega
      · omega
      · omega
      · omega
      · omega
    · rw [d i hi]
      rw [c] at h3
      refine bhK_cs (R := fun x => x = 0) (fun e y => ?_) (fun e y => ?_) (fun e y => ?_) (fun e y => ?_) (fun e y => ?_) (fun e y => ?_) (fun _ => rfl) (fun y => ?_)
      · have := p3 e; omega
      · have := p4 e; have := g1 (Or.inr (Or.inl e)); omega
      · have := p6 e; omega
      · have := p7 e; omega
      · have := p7 e; omega
      · omega
      · omega
