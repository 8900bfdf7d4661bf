/-! ===== pure: the class marks begins and sites ===== -/
def isCl (D : eF) (m j : Nat) : Prop := cdD D m j = 47 ∨ cdD D m j = 48
def BC1 (P : Nat) (D : eF) (m : Nat) (M : eM) : Prop := ∀ j, j < D 174 m → (bg D m j → gi M (P + 57) (D 5 m + j) = if il D m j = 0 then -1 else N (il D m j)) ∧ (¬ bg D m j → gi M (P + 57) (D 5 m + j) = 0)
def PRc (D : eF) (m p m' j' : Nat) : Prop := m' < D 0 2 ∧ j' < D 174 m' ∧ (m' < m ∨ (m' = m ∧ j' < p))
/-- sites: their numbers -/
def SI (P : Nat) (D : eF) (m p a : Nat) (M : eM) : Prop := ∃ (cnt : Nat) (sf : Nat → Nat → Nat), gi M P 14 = N cnt ∧ 2 * cnt ≤ a ∧ (∀ m' j', PRc D m p m' j' → bg D m' j' → il D m' j' ≠ 0 → (isCl D m' j' → gi M (P + 58) (D 5 m' + j') = N (sf m' j') ∧ sf m' j' < cnt) ∧ (¬ isCl D m' j' → gi M (P + 58) (D 5 m' + j') = -1)) ∧ (∀ m1 j1 m2 j2, PRc D m p m1 j1 → PRc D m p m2 j2 → bg D m1 j1 → bg D m2 j2 → il D m1 j1 ≠ 0 → il D m2 j2 ≠ 0 → isCl D m1 j1 → isCl D m2 j2 → sf m1 j1 = sf m2 j2 → m1 = m2 ∧ j1 = j2)
abbrev oD (P : Nat) (D : eF) (m : Nat) : Nat → Nat → Prop := fun a j => (a = P ∧ j = 14) ∨ (a = P + 57 ∧ D 5 m ≤ j ∧ j < D 5 m + D 174 m) ∨ (a = P + 58 ∧ D 5 m ≤ j ∧ j < D 5 m + D 174 m)
theorem y_no102 : y_refs.all (fun q => !(q.1 == 10 && q.2.1 == 2)) = true := by decide +kernel
theorem lay57 {P : Nat} (h : PP P) : y_lay.getD (P + 57 - 8) (0, 0) = (20, 1500) ∧ y_lay.getD (P + 59 - 8) (0, 0) = (20, 1500) := by rcases h with rfl | rfl <;> exact ⟨rfl, rfl⟩
theorem c_sizeAt {L xs P D M m p Q} (hP : PP P) (hY : Y L xs M) (hr : gr M 10 2 = P) (hD : KD D) (hK : KC P D M) (hm : m < D 0 2) (hp : p < D 174 m) (hQ : Q (if il0 D m p = 0 then -1 else N (il0 D m p)) M) : w_Decoder_sizeAt 10 (N (D 5 m + p)) (N (D 5 m + D 174 m)) M Q := by
  have h1 := hD.1
  have h2 := (hD.2.2.2.1 m hm).1
  obtain ⟨k1, k2, k3⟩ := hK.b hD hm hp
  unfold w_Decoder_sizeAt w_Decoder_sizeAt_54
  simp (disch := omega) only [N_lit, yo10 hY, po hY hP, hr, true_and, pr0 hY hP, pi1 hY hP, N_in, N_nat, k1, N_le, N_add, yi2 hY]
  refine ⟨by omega, fun c => ⟨fun c2 => ⟨fun c3 => ?_, fun c3 => ⟨by omega, ?_⟩⟩, fun c2 => ⟨by omega, ?_⟩⟩, fun c => ?_⟩
  · have : il0 D m p = 0 := by unfold il0; rw [if_neg (by omega), if_pos (by omega), if_neg (by omega)]
    rw [this] at hQ; exact hQ
  · obtain ⟨q1, q2, q3⟩ := hK.b hD hm (p := p + 1) (by omega)
    rw [show D 5 m + p + 1 = D 5 m + (p + 1) by omega, q1, N_add]
    have : il0 D m p = cdD D m (p + 1) + 3 := by unfold il0; rw [if_neg (by omega), if_pos (by omega), if_pos (by omega)]
    rw [this, if_neg (by omega)] at hQ; exact hQ
  · rw [hY.sz (by omega)]
    have : il0 D m p = szN.getD (cdD D m p) 0 := by unfold il0; rw [if_neg (by omega), if_neg (by omega)]
    rw [this, if_neg (by have := (szN_ok (cdD D m p) (by omega)).2; omega)] at hQ; exact hQ
  · have : il0 D m p = 0 := by unfold il0; rw [if_pos (by omega)]
    rw [this] at hQ; exact hQ
theorem il0_lt {D m p} (hb : cdD D m (p + 1) < 256 ∨ ¬ p + 1 < D 174 m) : il0 D m p < 300 := by
  unfold il0
  by_cases c : 53 < cdD D m p
  · rw [if_pos c]; omega
  · rw [if_neg c]
    by_cases c2 : cdD D m p = 53
    · rw [if_pos c2]
      by_cases c3 : p + 1 < D 174 m
      · rw [if_pos c3]; omega
      · rw [if_neg c3]; omega
    · rw [if_neg c2]; have := (szN_ok (cdD D m p) (by omega)).2; omega
theorem c_mark {L xs P D m kc ks} (hP : PP P) (hD : KD D) (hm : m < D 0 2) : ∀ n p M, D 174 m < p + n → p ≤ D 174 m → Y L xs M → gr M 10 2 = P → KC P D M → bgW D m p → (∀ j, j < D 174 m → (j < p → (bg D m j → gi M (P + 57) (D 5 m + j) = if il D m j = 0 then -1 else N (il D m j)) ∧ (¬ bg D m j → gi M (P + 57) (D 5 m + j) = 0)) ∧ (p ≤ j → gi M (P + 57) (D 5 m + j) = 0)) → SI P D m p (D 5 m + p) M →
    ∃ M1, FI (oD P D m) M M1 ∧ BC1 P D m M1 ∧ SI P D m (D 174 m) (D 5 m + D 174 m) M1 ∧ ∀ Q : eM → Prop, Q M1 → ∃ k, w_Decoder_markBegins_31 k kc ks 10 (N (D 5 m + D 174 m)) (N (D 5 m + p)) M Q := by
  have hg := hP.ge
  have h1 := hD.1
  have h2 := (hD.2.2.2.1 m hm).1
  intro n
  induction n with
  | zero => intro p M hn hp; omega
  | succ n ih =>
    intro p M hn hp hY hr hK hW hI hSI
    by_cases c : p = D 174 m
    · subst c
      refine ⟨M, FI.rf M, fun j hj => (hI j hj).1 hj, hSI, fun Q hQ => ⟨1, ?_⟩⟩
      unfold w_Decoder_markBegins_31
      exact ⟨fun _ => hQ, fun c => absurd (Int32.le_refl _) c⟩
    · have hp' : p < D 174 m := by omega
      obtain ⟨b0, b1, b2⟩ := bgW_st (by omega) hW hp'
      obtain ⟨k1, k2, k3⟩ := hK.b hD hm hp'
      have hil := il0_lt (D := D) (m := m) (p := p) (by
        by_cases c : p + 1 < D 174 m
        · exact Or.inl (hK.b hD hm c).2.1
        · exact Or.inr c)
      -- one turn of the class
      have hd : ∀ k (Q : eM → Prop), (il D m p = 0 → w_Decoder_markBegins_31 k kc ks 10 (N (D 5 m + D 174 m)) (N (D 5 m + D 174 m)) (e_si M (P + 57) (D 5 m + p) (-1)) Q) →
          (il D m p ≠ 0 → ¬ isCl D m p → w_Decoder_markBegins_31 k kc ks 10 (N (D 5 m + D 174 m)) (N (D 5 m + (p + il D m p))) (e_si (e_si M (P + 57) (D 5 m + p) (N (il D m p))) (P + 58) (D 5 m + p) (-1)) Q) →
          (il D m p ≠ 0 → isCl D m p → w_Decoder_markBegins_31 k kc ks 10 (N (D 5 m + D 174 m)) (N (D 5 m + (p + il D m p))) (e_si (e_si (e_si (e_si M (P + 57) (D 5 m + p) (N (il D m p))) (P + 58) (D 5 m + p) (-1)) (P + 58) (D 5 m + p) (gi M P 14)) P 14 (gi M P 14 + 1)) Q) → w_Decoder_markBegins_31 (k + 1) kc ks 10 (N (D 5 m + D 174 m)) (N (D 5 m + p)) M Q := by
        intro k Q q1 q2 q3
        have h69 : il D m p = 0 → w_Decoder_markBegins_69 kc ks 10 (N (D 5 m + D 174 m)) (N (D 5 m + p)) M Q (fun kc ks l0 l2 l3 M => w_Decoder_markBegins_31 k kc ks l0 l2 l3 M Q) := by
          intro e
          unfold w_Decoder_markBegins_69 w_Decoder_markBegins_153
          simp (disch := omega) only [yo10 hY, po hY hP, hr, true_and, pr12 hY hP, pa57 hY hP, N_in, N_nat, forall_eq]
          exact ⟨by omega, q1 e⟩
        unfold w_Decoder_markBegins_31
        simp (disch := omega) only [yo10 hY, po hY hP, hr, true_and, pr0 hY hP, pi1 hY hP, N_in, N_nat, N_le, k1]
        refine ⟨fun c => absurd c (by omega), fun _ => ⟨by omega, c_sizeAt hP hY hr hD hK hm hp' ?_⟩⟩
        by_cases e0 : il0 D m p = 0
        · have e1 : il D m p = 0 := by unfold il; rw [if_pos (Or.inl e0)]
          rw [if_pos e0]
          exact ⟨fun _ => h69 e1, fun z => absurd rfl z⟩
        · rw [if_neg e0, N_neg (by omega), N_add, N_le (by omega) (by omega)]
          refine ⟨fun z => z.elim, fun _ => ⟨fun c2 => ?_, fun c2 => h69 (by unfold il; rw [if_pos (Or.inr (by omega))])⟩⟩
          have e1 : il D m p = il0 D m p := by unfold il; rw [if_neg (by omega)]
          rw [e1] at q2 q3
          unfold w_Decoder_markBegins_119 w_Decoder_markBegins_148 w_Decoder_markBegins_153
          simp (disch := omega) only [N_lit, yo10 hY, po hY hP, hr, true_and, pr12 hY hP, pa57 hY hP, pr13 hY hP, pa58 hY hP, N_in, N_nat, forall_eq, ob_si, gr_si, ar_si, N_eq, N_add, gi_si, show ¬ (P = P + 58) by omega, show ¬ (P = P + 57) by omega, false_and, if_false]
          have t3 := q3 e0
          have t2 := q2 e0
          unfold isCl at t2 t3
          rw [show D 5 m + (p + il0 D m p) = D 5 m + p + il0 D m p by omega] at t2 t3
          exact ⟨by omega, by omega, fun e => ⟨by omega, t3 (Or.inl e)⟩, fun e => ⟨fun e' => t2 (by omega), fun e' => ⟨by omega, t3 (Or.inr e')⟩⟩⟩
      obtain ⟨cnt, sf, s1, s2, s3, s4⟩ := hSI
      have adr : ∀ m' j', PRc D m p m' j' → D 5 m' + j' < D 5 m + p := by
        intro m' j' h
        obtain ⟨p1, p2, p3 | ⟨rfl, p3⟩⟩ := h
        · have := h2.2.2.2.2.2.2.2 m' p3; omega
        · omega
      by_cases e0 : il D m p = 0
      · refine ⟨e_si M (P + 57) (D 5 m + p) (-1), FI.si (FI.rf M) (by unfold oD; omega), fun j hj => ?_, ⟨cnt, sf, by rw [gd (by omega)]; exact s1, by omega, fun m' j' hp1 hb hi => ?_, fun m1 j1 m2 j2 hp1 hp2 hb1 hb2 hi1 hi2 => s4 m1 j1 m2 j2 ?_ ?_ hb1 hb2 hi1 hi2⟩, fun Q hQ => ⟨1 + 1, hd 1 Q (fun _ => ?_) (fun z => absurd e0 z) (fun z => absurd e0 z)⟩⟩
        · by_cases ej : j = p
          · subst ej; rw [gs, if_pos e0]; exact ⟨fun _ => rfl, fun z => absurd b0 z⟩
          · rw [gd (by omega)]
            by_cases cj : j < p
            · exact (hI j hj).1 cj
            · exact ⟨fun hb => absurd hb (b1 e0 j (by omega)), fun _ => (hI j hj).2 (by omega)⟩
        · have hp2 : PRc D m p m' j' := by
            obtain ⟨p1, p2, p3 | ⟨rfl, p3⟩⟩ := hp1
            · exact ⟨p1, p2, Or.inl p3⟩
            · refine ⟨p1, p2, Or.inr ⟨rfl, ?_⟩⟩
              by_cases cj : j' = p
              · subst cj; exact absurd e0 hi
              · by_cases cl : p < j'
                · exact absurd hb (b1 e0 j' cl)
                · omega
          rw [gd (by omega)]
          exact s3 m' j' hp2 hb hi
        · obtain ⟨p1, p2, p3 | ⟨rfl, p3⟩⟩ := hp1
          · exact ⟨p1, p2, Or.inl p3⟩
          · refine ⟨p1, p2, Or.inr ⟨rfl, ?_⟩⟩
            by_cases cj : j1 = p
            · subst cj; exact absurd e0 hi1
            · by_cases cl : p < j1
              · exact absurd hb1 (b1 e0 j1 cl)
              · omega
        · obtain ⟨p1, p2, p3 | ⟨rfl, p3⟩⟩ := hp2
          · exact ⟨p1, p2, Or.inl p3⟩
          · refine ⟨p1, p2, Or.inr ⟨rfl, ?_⟩⟩
            by_cases cj : j2 = p
            · subst cj; exact absurd e0 hi2
            · by_cases cl : p < j2
              · exact absurd hb2 (b1 e0 j2 cl)
              · omega
        · unfold w_Decoder_markBegins_31
          exact ⟨fun _ => hQ, fun c => absurd (Int32.le_refl _) c⟩
      · obtain ⟨b3, b4⟩ := b2 e0
        have hle := (il_le e0).2.1
        have hmore : ∀ m' j', PRc D m (p + il D m p) m' j' → bg D m' j' → (PRc D m p m' j' ∨ (m' = m ∧ j' = p)) := by
          intro m' j' h hb
          obtain ⟨p1, p2, p3 | ⟨rfl, p3⟩⟩ := h
          · exact Or.inl ⟨p1, p2, Or.inl p3⟩
          · by_cases cj : j' = p
            · exact Or.inr ⟨rfl, cj⟩
            · by_cases cl : p < j'
              · exact absurd hb (b4 j' cl p3)
              · exact Or.inl ⟨p1, p2, Or.inr ⟨rfl, by omega⟩⟩
        by_cases ec : isCl D m p
        · -- a site
          have ei : il D m p = 2 := by
            have := (il_le e0).1
            rw [this]
            unfold il0
            unfold isCl at ec
            rcases ec with ec | ec <;> rw [ec] <;> rfl
          generalize hM' : e_si (e_si (e_si (e_si M (P + 57) (D 5 m + p) (N (il D m p))) (P + 58) (D 5 m + p) (-1)) (P + 58) (D 5 m + p) (gi M P 14)) P 14 (gi M P 14 + 1) = M' at hd
          have fM : FI (oD P D m) M M' := by
            rw [← hM']
            exact FI.si (FI.si (FI.si (FI.si (FI.rf M) (by unfold oD; omega)) (by unfold oD; omega)) (by unfold oD; omega)) (by unfold oD; omega)
          have hY' : Y L xs M' := fM.Y (fun a j ha => by unfold oD; omega) hY
          have v57 : ∀ j, gi M' (P + 57) j = if j = D 5 m + p then N (il D m p) else gi M (P + 57) j := by
            intro j
            rw [← hM', gd (by omega), gd (by omega), gd (by omega), gi_si]
            simp only [true_and]
          have v58 : ∀ j, gi M' (P + 58) j = if j = D 5 m + p then gi M P 14 else gi M (P + 58) j := by
            intro j
            rw [← hM', gd (by omega)]
            by_cases e : j = D 5 m + p
            · rw [if_pos e, e, gs]
            · rw [if_neg e, gd (by omega), gd (by omega), gd (by omega)]
          have v14 : gi M' P 14 = N (cnt + 1) := by
            rw [← hM', gs, s1, show (1 : Int32) = N 1 from rfl, N_add]
          obtain ⟨M1, a1, a2, a3, a4⟩ := ih (p + il D m p) M' (by omega) hle hY' (by rw [fM.gr]; exact hr) (hK.fi hD fM (fun a j h => by unfold oD; omega)) b3 (fun j hj => by
              rw [v57]
              refine ⟨fun cj => ?_, fun cj => by rw [if_neg (by omega)]; exact (hI j hj).2 (by omega)⟩
              by_cases ej : j = p
              · subst ej; rw [if_pos rfl, if_neg e0]; exact ⟨fun _ => rfl, fun z => absurd b0 z⟩
              · rw [if_neg (by omega)]
                by_cases ck : j < p
                · exact (hI j hj).1 ck
                · exact ⟨fun hb => absurd hb (b4 j (by omega) cj), fun _ => (hI j hj).2 (by omega)⟩)
            ⟨cnt + 1, fun m' j' => if m' = m ∧ j' = p then cnt else sf m' j', v14, by omega, fun m' j' hp1 hb hi => by
              rcases hmore m' j' hp1 hb with h | ⟨rfl, rfl⟩
              · have ha := adr m' j' h
                have hne : ¬ (m' = m ∧ j' = p) := by rintro ⟨rfl, rfl⟩; omega
                rw [v58, if_neg (by omega)]
                simp only [if_neg hne]
                exact ⟨fun z => ⟨((s3 m' j' h hb hi).1 z).1, by have := ((s3 m' j' h hb hi).1 z).2; omega⟩, (s3 m' j' h hb hi).2⟩
              · rw [v58, if_pos rfl]
                simp only [and_self, if_true]
                exact ⟨fun _ => ⟨s1, by omega⟩, fun z => absurd ec z⟩, fun m1 j1 m2 j2 hp1 hp2 hb1 hb2 hi1 hi2 hc1 hc2 he => by
              rcases hmore m1 j1 hp1 hb1 with h1' | ⟨rfl, rfl⟩
              · have ha := adr m1 j1 h1'
                have hne : ¬ (m1 = m ∧ j1 = p) := by rintro ⟨rfl, rfl⟩; omega
                rcases hmore m2 j2 hp2 hb2 with h2' | ⟨rfl, rfl⟩
                · have hb := adr m2 j2 h2'
                  have hne2 : ¬ (m2 = m ∧ j2 = p) := by rintro ⟨rfl, rfl⟩; omega
                  simp only [if_neg hne, if_neg hne2] at he
                  exact s4 m1 j1 m2 j2 h1' h2' hb1 hb2 hi1 hi2 hc1 hc2 he
                · simp only [if_neg hne, and_self, if_true] at he
                  have := ((s3 m1 j1 h1' hb1 hi1).1 hc1).2
                  omega
              · rcases hmore m2 j2 hp2 hb2 with h2' | ⟨rfl, rfl⟩
                · have hb := adr m2 j2 h2'
                  have hne2 : ¬ (m2 = m1 ∧ j2 = j1) := by rintro ⟨rfl, rfl⟩; omega
                  simp only [if_neg hne2, and_self, if_true] at he
                  have := ((s3 m2 j2 h2' hb2 hi2).1 hc2).2
                  omega
                · exact ⟨rfl, rfl⟩⟩
          refine ⟨M1, FI.t2 fM a1, a2, a3, fun Q hQ => ?_⟩
          obtain ⟨k, hk⟩ := a4 Q hQ
          exact ⟨k + 1, hd k Q (fun z => absurd z e0) (fun _ z => absurd ec z) (fun _ _ => hk)⟩
        · generalize hM' : e_si (e_si M (P + 57) (D 5 m + p) (N (il D m p))) (P + 58) (D 5 m + p) (-1) = M' at hd
          have fM : FI (oD P D m) M M' := by
            rw [← hM']
            exact FI.si (FI.si (FI.rf M) (by unfold oD; omega)) (by unfold oD; omega)
          have hY' : Y L xs M' := fM.Y (fun a j ha => by unfold oD; omega) hY
          have v57 : ∀ j, gi M' (P + 57) j = if j = D 5 m + p then N (il D m p) else gi M (P + 57) j := by
            intro j
            rw [← hM', gd (by omega), gi_si]
            simp only [true_and]
          have v58 : ∀ j, gi M' (P + 58) j = if j = D 5 m + p then -1 else gi M (P + 58) j := by
            intro j
            rw [← hM']
            by_cases e : j = D 5 m + p
            · rw [if_pos e, e, gs]
            · rw [if_neg e, gd (by omega), gd (by omega)]
          have v14 : gi M' P 14 = N cnt := by
            rw [← hM', gd (by omega), gd (by omega)]; exact s1
          obtain ⟨M1, a1, a2, a3, a4⟩ := ih (p + il D m p) M' (by omega) hle hY' (by rw [fM.gr]; exact hr) (hK.fi hD fM (fun a j h => by unfold oD; omega)) b3 (fun j hj => by
              rw [v57]
              refine ⟨fun cj => ?_, fun cj => by rw [if_neg (by omega)]; exact (hI j hj).2 (by omega)⟩
              by_cases ej : j = p
              · subst ej; rw [if_pos rfl, if_neg e0]; exact ⟨fun _ => rfl, fun z => absurd b0 z⟩
              · rw [if_neg (by omega)]
                by_cases ck : j < p
                · exact (hI j hj).1 ck
                · exact ⟨fun hb => absurd hb (b4 j (by omega) cj), fun _ => (hI j hj).2 (by omega)⟩)
            ⟨cnt, sf, v14, by omega, fun m' j' hp1 hb hi => by
              rcases hmore m' j' hp1 hb with h | ⟨rfl, rfl⟩
              · have ha := adr m' j' h
                rw [v58, if_neg (by omega)]
                exact s3 m' j' h hb hi
              · rw [v58, if_pos rfl]
                exact ⟨fun z => absurd z ec, fun _ => rfl⟩, fun m1 j1 m2 j2 hp1 hp2 hb1 hb2 hi1 hi2 hc1 hc2 he => by
              rcases hmore m1 j1 hp1 hb1 with h1' | ⟨rfl, rfl⟩
              · rcases hmore m2 j2 hp2 hb2 with h2' | ⟨rfl, rfl⟩
                · exact s4 m1 j1 m2 j2 h1' h2' hb1 hb2 hi1 hi2 hc1 hc2 he
                · exact absurd hc2 ec
              · exact absurd hc1 ec⟩
          refine ⟨M1, FI.t2 fM a1, a2, a3, fun Q hQ => ?_⟩
          obtain ⟨k, hk⟩ := a4 Q hQ
          exact ⟨k + 1, hd k Q (fun z => absurd z e0) (fun _ _ => hk) (fun _ z => absurd z ec)⟩
