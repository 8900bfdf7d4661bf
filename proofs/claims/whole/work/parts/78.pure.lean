def adM (M : eM) (h v : Nat) : eM := e_si (e_sl M 11 8 ((gl M 11 8) ||| (((N v).toInt64) <<< ((8 * N h).toInt64 &&& 63)))) 11 6 (N (h + 1))
theorem adM_ok {M h v} {ks : Nat → Nat} (hh : h < 8) (hv : v < 256) (h8 : PKr (gl M 11 8) ks) (h0 : ks h = 0) : gi (adM M h v) 11 6 = N (h + 1) ∧ PKr (gl (adM M h v) 11 8) (fun i => if i = h then v else ks i) ∧ gl (adM M h v) 11 7 = gl M 11 7 ∧ FX oVi oVl M (adM M h v) := by
  unfold adM
  exact ⟨by rw [gs], by rw [gl_si, gls]; exact zk_or h8 hh h0 hv, by rw [gl_si, gld (by omega)], FX.si (FX.sl (FX.rf M) ⟨rfl, Or.inr rfl⟩) ⟨rfl, rfl⟩⟩
theorem c_adM {L xs M h v} {ks : Nat → Nat} {Q : eM → Prop} (hY : Y L xs M) (hh : h < 8) (hv : v < 256) (h6 : gi M 11 6 = N h) (h8 : PKr (gl M 11 8) ks) (h0 : ks h = 0) (hQ : Q (adM M h v)) : w_Verifier_addKind 11 (N v) M Q :=
  c_add hY hh hv h6 h8 h0 (fun M2 e _ _ _ _ => by rw [e]; exact hQ)
theorem c_behind {L xs P D m j M} {s : eS} (hP : PP P) (hD : KD D) (hm : m < D 0 2) (hV : VC L xs P D m M) (hg : good D m j) (hj : j < D 174 m) (hs : wfS D s) (h0 : s.1 ≠ 0) (hh : gi M (P + 59) (D 5 m + j) = hI s.1) (hk : 2 ≤ s.1 → PKr (gl M (P + 60) (D 5 m + j)) s.2 ∧ PKr (gl M (P + 61) (D 5 m + j)) (fun i => s.2 (8 + i))) :
    ∃ M1 o, FX oVi oVl M M1 ∧ outS D m j s o ∧ CUR o M1 ∧ ∀ Q : eM → Prop, Q M1 → w_Verifier_findBehind 11 (N (D 5 m + j)) (N (cdD D m j)) M Q := by
  have hV0 := hV
  have hgr := hP.ge
  obtain ⟨hY, h3, h4, hK, hB⟩ := hV
  obtain ⟨g0, g1, g2, g3, g4, g5, g6, g7⟩ := good_f hD hm hg
  have hd := hD.1
  have h2 := (hD.2.2.2.1 m hm).1
  obtain ⟨t1, t2, -⟩ := tk_le hD hm hg
  have km := (hK.2.2.2.2.1 m hm).2.2.2.2.1
  generalize hM6 : e_sl (e_sl M 11 7 (gl M (P + 60) (D 5 m + j))) 11 8 (gl M (P + 61) (D 5 m + j)) = M6
  have f6 : FX oVi oVl M M6 := by rw [← hM6]; exact FX.sl (FX.sl (FX.rf M) ⟨rfl, Or.inl rfl⟩) ⟨rfl, Or.inr rfl⟩
  have hY6 : Y L xs M6 := f6.Y (fun a j ha => by unfold oVi; omega) hY
  have l7 : gl M6 11 7 = gl M (P + 60) (D 5 m + j) := by rw [← hM6, gld (by omega), gls]
  have l8 : gl M6 11 8 = gl M (P + 61) (D 5 m + j) := by rw [← hM6, gls]
  have start : ∀ Q : eM → Prop, ((hI s.1 < N (tkD D m j) → w_Verifier_findBehind_75 11 M6 Q) ∧ (¬ hI s.1 < N (tkD D m j) → ((hI s.1 - N (tkD D m j)) + N (puD D m j) ≤ N (D 173 m) → ∀ M7 : eM, M7 = e_si M6 11 6 (hI s.1) → (hI s.1 ≤ 0 → w_Verifier_findBehind_105 11 (N (D 5 m + j)) (N (cdD D m j)) (hI s.1) (N (tkD D m j)) (N (puD D m j)) 0 M7 Q) ∧ (¬ hI s.1 ≤ 0 → e_ob M7 11 10 ∧ w_Program_kindIn (gl M7 11 8) (hI s.1 - 1) M7 (fun v9 M8 => w_Verifier_findBehind_105 11 (N (D 5 m + j)) (N (cdD D m j)) (hI s.1) (N (tkD D m j)) (N (puD D m j)) v9 M8 Q))) ∧ (¬ (hI s.1 - N (tkD D m j)) + N (puD D m j) ≤ N (D 173 m) → w_Verifier_findBehind_75 11 M6 Q))) → w_Verifier_findBehind 11 (N (D 5 m + j)) (N (cdD D m j)) M Q := by
    intro Q h
    unfold w_Verifier_findBehind
    simp (disch := omega) only [yo11 hY, h3, po hY hP, true_and, pr15 hY hP, pi59 hY hP, N_in, N_nat, hh]
    refine ⟨by omega, c_takes hP hD hm hV0 hg hj ⟨yo11 hY, c_puts hP hD hm hV0 hg hj ?_⟩⟩
    simp (disch := omega) only [yo11 hY, h3, po hY hP, true_and, pr16 hY hP, pa60 hY hP, N_in, N_nat]
    refine ⟨by omega, fun M5 e5 => ?_⟩
    subst e5
    have hr5 : gr (e_sl M 11 7 (gl M (P + 60) (D 5 m + j))) 11 3 = P := h3
    have hY5 : Y L xs (e_sl M 11 7 (gl M (P + 60) (D 5 m + j))) := hY
    rw [hr5, pr17 hY5 hP, pa61 hY5 hP, N_in (by omega)]
    refine ⟨yo11 hY5, po hY5 hP, by omega, yo11 hY5, fun M6' e6 => ?_⟩
    rw [gld (by omega)] at e6
    rw [hM6] at e6
    rw [e6]
    have hr6 : gr M6 11 4 = P + 24 + 2 * m := by rw [f6.gr]; exact h4
    rw [hr6, show gi M6 (P + 24 + 2 * m) 4 = N (D 173 m) by rw [f6.gi (by unfold oVi; omega)]; exact km]
    exact ⟨h.1, fun c => ⟨yo11 hY6, pmo hY6 hP (by omega), fun c2 => ⟨yo11 hY6, (h.2 c).1 c2⟩, (h.2 c).2⟩⟩
  -- a clash
  have clash : ∀ o : eS, o.1 = 1 → CUR o (e_si M6 11 6 (-2)) ∧ FX oVi oVl M (e_si M6 11 6 (-2)) ∧ ∀ Q : eM → Prop, Q (e_si M6 11 6 (-2)) → w_Verifier_findBehind_75 11 M6 Q := by
    intro o ho
    refine ⟨⟨by rw [gs, ho]; rfl, by omega, fun z => by omega⟩, FX.si f6 ⟨rfl, rfl⟩, fun Q hQ => ⟨yo11 hY6, fun M25 e => ?_⟩⟩
    subst e; exact hQ
  by_cases s1 : s.1 = 1
  · obtain ⟨c1, c2, c3⟩ := clash (1, fun _ => 0) rfl
    refine ⟨_, (1, fun _ => 0), c2, Or.inl ⟨s1, rfl⟩, c1, fun Q hQ => start Q ?_⟩
    rw [s1, hI1]
    exact ⟨fun _ => c3 Q hQ, fun z => absurd (N_lt_neg2 (by omega)) z⟩
  · have s2 : 2 ≤ s.1 := by omega
    obtain ⟨w1, w2, w3⟩ := hs s2
    obtain ⟨k7, k8⟩ := hk s2
    have w256 : ∀ i, i < 16 → s.2 i < 256 := fun i hi => by have := w2 i hi; unfold vk at this; omega
    generalize hh' : s.1 - 2 = h at *
    have hs1 : s.1 = h + 2 := by omega
    rw [hI2 s2, hh'] at start
    by_cases ok : okH D m j h
    · obtain ⟨ok1, ok2⟩ := ok
      generalize hM7 : e_si M6 11 6 (N h) = M7
      have f7 : FX oVi oVl M M7 := by rw [← hM7]; exact FX.si f6 ⟨rfl, rfl⟩
      have hY7 : Y L xs M7 := f7.Y (fun a j ha => by unfold oVi; omega) hY
      have m6 : gi M7 11 6 = N h := by rw [← hM7, gs]
      have m7 : PKr (gl M7 11 7) s.2 := by rw [← hM7, gl_si, l7]; exact k7
      have m8 : PKr (gl M7 11 8) (fun i => s.2 (8 + i)) := by rw [← hM7, gl_si, l8]; exact k8
      -- top and below
      obtain ⟨M1, a1, a2, a3, a4, a5⟩ := c_dropL (l1 := N (D 5 m + j)) (l2 := N (cdD D m j)) (l5 := N (puD D m j)) (l6 := if h = 0 then 0 else N (s.2 (8 + h - 1))) (l7 := if h ≤ 1 then 0 else N (s.2 (8 + h - 2))) hY7 (by omega) ok1 m6 m8
      have f1 : FX oVi oVl M M1 := FX.t2 f7 a1
      have hV1 : VC L xs P D m M1 := hV0.fx hD f1 (fun a j z => by unfold oVi; omega)
      have hY1 := hV1.1
      have n7 : PKr (gl M1 11 7) s.2 := by rw [a3]; exact m7
      have n8 : PKr (gl M1 11 8) (fun x => if h - tkD D m j ≤ x then 0 else s.2 (8 + x)) := zk_cg a4 (fun x hx => by
        show (if h - tkD D m j ≤ x ∧ x < h then 0 else s.2 (8 + x)) = if h - tkD D m j ≤ x then 0 else s.2 (8 + x)
        by_cases c : h - tkD D m j ≤ x
        · by_cases c2 : x < h
          · rw [if_pos ⟨c, c2⟩, if_pos c]
          · rw [if_neg (by omega), if_pos c]; exact w3 _ (by omega) (by omega)
        · rw [if_neg (by omega), if_neg c])
      have reach : ∀ Q : eM → Prop, (∃ n, w_Verifier_findBehind_131 n 11 (N (D 5 m + j)) (N (cdD D m j)) (N (tkD D m j)) (N (puD D m j)) (if h = 0 then 0 else N (s.2 (8 + h - 1))) (if h ≤ 1 then 0 else N (s.2 (8 + h - 2))) (N (tkD D m j)) M1 Q) → w_Verifier_findBehind 11 (N (D 5 m + j)) (N (cdD D m j)) M Q := by
        intro Q hQ
        have h131 := a5 Q hQ
        refine start Q ⟨fun c => ?_, fun _ => ⟨fun _ M7' e7 => ?_, fun c => ?_⟩⟩
        · rw [N_lt (by omega) (by omega)] at c; omega
        · rw [hM7] at e7
          rw [e7]
          have h105 : ∀ t, t = (if h = 0 then 0 else N (s.2 (8 + h - 1))) → w_Verifier_findBehind_105 11 (N (D 5 m + j)) (N (cdD D m j)) (N h) (N (tkD D m j)) (N (puD D m j)) t M7 Q := by
            intro t ht
            subst ht
            unfold w_Verifier_findBehind_105 w_Verifier_findBehind_126 w_Program_kindIn
            rw [show (1 : Int32) = N 1 from rfl, N_le (by omega) (by omega)]
            refine ⟨fun c => by rw [if_pos c] at h131; exact h131, fun c => ⟨yo11 hY7, ?_⟩⟩
            rw [show (2 : Int32) = N 2 from rfl, N_sub (by omega), zk_get m8 (by omega) (w256 _ (by omega)), show 8 + (h - 2) = 8 + h - 2 by omega]
            rw [if_neg c] at h131; exact h131
          rw [show (0 : Int32) = N 0 from rfl, N_le (by omega) (by omega)]
          refine ⟨fun c => h105 _ (by rw [if_pos (by omega)]; rfl), fun c => ⟨yo11 hY7, ?_⟩⟩
          unfold w_Program_kindIn
          rw [show (1 : Int32) = N 1 from rfl, N_sub (by omega), zk_get m8 (by omega) (w256 _ (by omega)), show 8 + (h - 1) = 8 + h - 1 by omega]
          exact h105 _ (by rw [if_neg (by omega)])
        · rw [N_sub ok1, N_add, N_le (by omega) (by omega)] at c; omega
      obtain ⟨p3, p4, p6, p7⟩ := p3467 (D := D) (m := m) (j := j)
      have fin : ∀ M2, FX oVi oVl M M2 → gi M2 11 6 = N (h - tkD D m j + puD D m j) → PKr (gl M2 11 7) (fun i => bhK D m j h s.2 i) → PKr (gl M2 11 8) (fun i => bhK D m j h s.2 (8 + i)) → FX oVi oVl M M2 ∧ outS D m j s (s.1 - tkD D m j + puD D m j, bhK D m j h s.2) ∧ CUR (s.1 - tkD D m j + puD D m j, bhK D m j h s.2) M2 := by
        intro M2 q1 q2 q3 q4
        refine ⟨q1, Or.inr (Or.inr ⟨s2, by rw [hh']; exact ⟨ok1, ok2⟩, rfl, fun i _ => by rw [hh']⟩), ?_, ?_, fun _ => ⟨q3, q4⟩⟩
        · rw [q2]
          show _ = hI (s.1 - tkD D m j + puD D m j)
          rw [hI2 (by omega)]; congr 1; omega
        · show s.1 - tkD D m j + puD D m j ≠ 0
          omega
      -- locals stay, but for SET
      have loc : cdD D m j ≠ 4 → ∀ i, i < 8 → s.2 i = bhK D m j h s.2 i := by
        intro e i hi
        refine bhK_c2 (R := fun y => s.2 i = y) (fun _ z => by omega) (fun z _ => absurd z e) (fun z y => by have := (p6 z).1; omega) (fun z y => by have := (p7 z).1; omega) (fun z _ y => by have := (p7 z).1; omega) (fun _ _ z => by omega) (fun _ _ _ _ _ => by rw [if_neg (by omega)])
      have z8 : (fun x => if h - tkD D m j ≤ x then 0 else s.2 (8 + x)) (h - tkD D m j) = 0 := by
        show (if h - tkD D m j ≤ h - tkD D m j then 0 else _) = 0
        rw [if_pos (Nat.le_refl _)]
      -- one more on the stack
      have one : ∀ v, v < 256 → h - tkD D m j < 8 → puD D m j = 1 → cdD D m j ≠ 4 → (∀ i, i < 8 → (if i = h - tkD D m j then v else if h - tkD D m j ≤ i then 0 else s.2 (8 + i)) = bhK D m j h s.2 (8 + i)) → FX oVi oVl M (adM M1 (h - tkD D m j) v) ∧ outS D m j s (s.1 - tkD D m j + puD D m j, bhK D m j h s.2) ∧ CUR (s.1 - tkD D m j + puD D m j, bhK D m j h s.2) (adM M1 (h - tkD D m j) v) := by
        intro v hv hlt hpu h4 heq
        obtain ⟨d1, d2, d3, d4⟩ := adM_ok hlt hv n8 z8
        exact fin _ (FX.t2 f1 d4) (by rw [d1, hpu]) (by rw [d3]; exact zk_cg n7 (loc h4)) (zk_cg d2 heq)
      by_cases e3 : cdD D m j = 3
      · obtain ⟨x1, x2, x3⟩ := g1 (Or.inl e3)
        obtain ⟨q1, q2⟩ := p3 e3
        obtain ⟨b1, b2, b3⟩ := hV1.2.2.2.1.b hD hm x1
        rw [show D 5 m + (j + 1) = D 5 m + j + 1 by omega] at b1
        obtain ⟨r1, r2, r3⟩ := one (s.2 (cdD D m (j + 1))) (w256 _ (by omega)) (by omega) q2 (by omega) (fun i hi => by
          refine bhK_c2 (R := fun y => (if i = h - tkD D m j then s.2 (cdD D m (j + 1)) else if h - tkD D m j ≤ i then 0 else s.2 (8 + i)) = y) (fun _ z => by rw [if_pos (by omega)]) (fun z _ => by omega) (fun z _ => by omega) (fun z _ => by omega) (fun z _ _ => by omega) (fun z _ _ => absurd e3 z.1) (fun z1 _ _ _ _ => ?_)
          rw [if_neg (by omega)]
          by_cases c : h - tkD D m j ≤ i
          · rw [if_pos c, if_pos (by omega)]
          · rw [if_neg c, if_neg (by omega)])
        refine ⟨_, _, r1, r2, r3, fun Q hQ => reach Q ⟨1, ?_⟩⟩
        unfold w_Verifier_findBehind_131
        refine ⟨fun _ => ⟨fun z => absurd (by rw [e3]; rfl) z, fun _ => ?_⟩, fun c => absurd (Int32.le_refl _) c⟩
        rw [hV1.2.1, pr0 hY1 hP, show (1 : Int32) = N 1 from rfl, N_add, pi1 hY1 hP, N_in (by omega), N_nat (by omega), b1]
        refine ⟨yo11 hY1, yo11 hY1, po hY1 hP, by omega, ?_⟩
        unfold w_Program_kindIn
        rw [zk_get n7 x3 (w256 _ (by omega))]
        exact ⟨yo11 hY1, c_adM hY1 (by omega) (w256 _ (by omega)) a2 n8 z8 hQ⟩
      · have ne3 : ¬ N (cdD D m j) = 3 := by rw [show (3 : Int32) = N 3 from rfl, N_eq (by omega) (by omega)]; exact e3
        by_cases e4 : cdD D m j = 4
        · obtain ⟨x1, x2, x3⟩ := g1 (Or.inr (Or.inl e4))
          obtain ⟨q1, q2⟩ := p4 e4
          obtain ⟨b1, b2, b3⟩ := hV1.2.2.2.1.b hD hm x1
          rw [show D 5 m + (j + 1) = D 5 m + j + 1 by omega] at b1
          have hh0 : ¬ h = 0 := by omega
          rw [if_neg hh0] at reach
          generalize ha : cdD D m (j + 1) = a at *
          have sl := zk_or (i := a) (v := s.2 (8 + h - 1)) (zk_and n7 x3) x3 (by show (if a = a then 0 else _) = 0; rw [if_pos rfl]) (w256 _ (by omega))
          obtain ⟨r1, r2, r3⟩ := fin (e_sl M1 11 7 (((gl M1 11 7) &&& ((255 <<< ((8 * N a).toInt64 &&& 63)) ^^^ (-1))) ||| (((N (s.2 (8 + h - 1))).toInt64) <<< ((8 * N a).toInt64 &&& 63)))) (FX.sl f1 ⟨rfl, Or.inl rfl⟩) (by rw [gi_sl, a2, q2]; rfl) (by
            rw [gls]
            refine zk_cg sl (fun i hi => ?_)
            refine bhK_c2 (R := fun y => (if i = a then s.2 (8 + h - 1) else if i = a then 0 else s.2 i) = y) (fun z _ => absurd z e3) (fun _ z => by rw [if_pos (by omega)]) (fun z _ => by omega) (fun z _ => by omega) (fun z _ _ => by omega) (fun z _ _ => absurd e4 z.2.1) (fun _ z _ _ _ => ?_)
            rw [if_neg (by omega), if_neg (by omega), if_neg (by omega)]) (by
            rw [gld (by omega)]
            refine zk_cg n8 (fun i hi => ?_)
            refine bhK_c2 (R := fun y => (if h - tkD D m j ≤ i then 0 else s.2 (8 + i)) = y) (fun z _ => absurd z e3) (fun _ z => by omega) (fun z _ => by omega) (fun z _ => by omega) (fun z _ _ => by omega) (fun z _ _ => absurd e4 z.2.1) (fun _ _ _ _ _ => ?_)
            by_cases c : h - tkD D m j ≤ i
            · rw [if_pos c, if_pos (by omega)]
            · rw [if_neg c, if_neg (by omega)])
          refine ⟨_, _, r1, r2, r3, fun Q hQ => reach Q ⟨1, ?_⟩⟩
          unfold w_Verifier_findBehind_131
          refine ⟨fun _ => ⟨fun _ => ⟨fun z => absurd (by rw [e4]; rfl) z, fun _ => ?_⟩, fun z => absurd z ne3⟩, fun c => absurd (Int32.le_refl _) c⟩
          rw [hV1.2.1, pr0 hY1 hP, show (1 : Int32) = N 1 from rfl, N_add, pi1 hY1 hP, N_in (by omega), N_nat (by omega), b1]
          refine ⟨yo11 hY1, po hY1 hP, by omega, yo11 hY1, yo11 hY1, fun M20 e20 => ?_⟩
          subst e20
          exact hQ
        · have ne4 : ¬ N (cdD D m j) = 4 := by rw [show (4 : Int32) = N 4 from rfl, N_eq (by omega) (by omega)]; exact e4
          -- two on the stack
          have two : ∀ v w, v < 256 → w < 256 → h - tkD D m j + 1 < 8 → puD D m j = 2 → (∀ i, i < 8 → (if i = h - tkD D m j + 1 then w else if i = h - tkD D m j then v else if h - tkD D m j ≤ i then 0 else s.2 (8 + i)) = bhK D m j h s.2 (8 + i)) → FX oVi oVl M (adM (adM M1 (h - tkD D m j) v) (h - tkD D m j + 1) w) ∧ outS D m j s (s.1 - tkD D m j + puD D m j, bhK D m j h s.2) ∧ CUR (s.1 - tkD D m j + puD D m j, bhK D m j h s.2) (adM (adM M1 (h - tkD D m j) v) (h - tkD D m j + 1) w) ∧ ∀ Q : eM → Prop, Q (adM (adM M1 (h - tkD D m j) v) (h - tkD D m j + 1) w) → w_Verifier_addKind 11 (N v) M1 (fun M16 => e_ob M16 11 10 ∧ w_Verifier_addKind 11 (N w) M16 (fun M17 => w_Verifier_findBehind_286 M17 Q)) := by
            intro v w hv hw hlt hpu heq
            obtain ⟨d1, d2, d3, d4⟩ := adM_ok (h := h - tkD D m j) (by omega) hv n8 z8
            have z9 : (fun i => if i = h - tkD D m j then v else if h - tkD D m j ≤ i then 0 else s.2 (8 + i)) (h - tkD D m j + 1) = 0 := by
              show (if h - tkD D m j + 1 = h - tkD D m j then v else if h - tkD D m j ≤ h - tkD D m j + 1 then 0 else _) = 0
              rw [if_neg (by omega), if_pos (by omega)]
            have hYd : Y L xs (adM M1 (h - tkD D m j) v) := d4.Y (fun a j ha => by unfold oVi; omega) hY1
            obtain ⟨c1, c2, c3, c4⟩ := adM_ok hlt hw d2 z9
            obtain ⟨r1, r2, r3⟩ := fin _ (FX.t2 (FX.t2 f1 d4) c4) (by rw [c1, hpu]) (by rw [c3, d3]; exact zk_cg n7 (loc e4)) (zk_cg c2 heq)
            exact ⟨r1, r2, r3, fun Q hQ => c_adM hY1 (by omega) hv a2 n8 z8 ⟨yo11 hYd, c_adM hYd hlt hw d1 d2 z9 hQ⟩⟩
          by_cases e6 : cdD D m j = 6
          · obtain ⟨q1, q2⟩ := p6 e6
            have hh0 : ¬ h = 0 := by omega
            rw [if_neg hh0] at reach
            obtain ⟨r1, r2, r3, r4⟩ := two (s.2 (8 + h - 1)) (s.2 (8 + h - 1)) (w256 _ (by omega)) (w256 _ (by omega)) (by omega) q2 (fun i hi => by
              refine bhK_c2 (R := fun y => (if i = h - tkD D m j + 1 then s.2 (8 + h - 1) else if i = h - tkD D m j then s.2 (8 + h - 1) else if h - tkD D m j ≤ i then 0 else s.2 (8 + i)) = y) (fun z _ => absurd z e3) (fun z _ => absurd z e4) (fun _ z => ?_) (fun z _ => by omega) (fun z _ _ => by omega) (fun z _ _ => absurd e6 z.2.2.1) (fun _ _ z _ _ => ?_)
              · by_cases c : i = h - tkD D m j + 1
                · rw [if_pos c]
                · rw [if_neg c, if_pos (by omega)]
              · rw [if_neg (by omega), if_neg (by omega)]
                by_cases c : h - tkD D m j ≤ i
                · rw [if_pos c, if_pos (by omega)]
                · rw [if_neg c, if_neg (by omega)])
            refine ⟨_, _, r1, r2, r3, fun Q hQ => reach Q ⟨1, ?_⟩⟩
            unfold w_Verifier_findBehind_131
            exact ⟨fun _ => ⟨fun _ => ⟨fun _ => ⟨fun z => absurd (by rw [e6]; rfl) z, fun _ => ⟨yo11 hY1, r4 Q hQ⟩⟩, fun z => absurd z ne4⟩, fun z => absurd z ne3⟩, fun c => absurd (Int32.le_refl _) c⟩
          · have ne6 : ¬ N (cdD D m j) = 6 := by rw [show (6 : Int32) = N 6 from rfl, N_eq (by omega) (by omega)]; exact e6
            by_cases e7 : cdD D m j = 7
            · obtain ⟨q1, q2⟩ := p7 e7
              have hh0 : ¬ h = 0 := by omega
              have hh1 : ¬ h ≤ 1 := by omega
              rw [if_neg hh0, if_neg hh1] at reach
              obtain ⟨r1, r2, r3, r4⟩ := two (s.2 (8 + h - 1)) (s.2 (8 + h - 2)) (w256 _ (by omega)) (w256 _ (by omega)) (by omega) q2 (fun i hi => by
                refine bhK_c2 (R := fun y => (if i = h - tkD D m j + 1 then s.2 (8 + h - 2) else if i = h - tkD D m j then s.2 (8 + h - 1) else if h - tkD D m j ≤ i then 0 else s.2 (8 + i)) = y) (fun z _ => absurd z e3) (fun z _ => absurd z e4) (fun z _ => absurd z e6) (fun _ z => by rw [if_neg (by omega), if_pos (by omega)]) (fun _ _ z => by rw [if_pos (by omega)]) (fun z _ _ => absurd e7 z.2.2.2) (fun _ _ _ z _ => ?_)
                rw [if_neg (by omega), if_neg (by omega)]
                by_cases c : h - tkD D m j ≤ i
                · rw [if_pos c, if_pos (by omega)]
                · rw [if_neg c, if_neg (by omega)])
              refine ⟨_, _, r1, r2, r3, fun Q hQ => reach Q ⟨1, ?_⟩⟩
              unfold w_Verifier_findBehind_131
              exact ⟨fun _ => ⟨fun _ => ⟨fun _ => ⟨fun _ => ⟨fun z => absurd (by rw [e7]; rfl) z, fun _ => ⟨yo11 hY1, r4 Q hQ⟩⟩, fun z => absurd z ne6⟩, fun z => absurd z ne4⟩, fun z => absurd z ne3⟩, fun c => absurd (Int32.le_refl _) c⟩
            · have ne7 : ¬ N (cdD D m j) = 7 := by rw [show (7 : Int32) = N 7 from rfl, N_eq (by omega) (by omega)]; exact e7
              have hkv := (kp_vk hD hm hg).2
              by_cases ep : puD D m j = 1
              · obtain ⟨r1, r2, r3⟩ := one (kpD D m j) hkv (by omega) ep e4 (fun i hi => by
                  refine bhK_c2 (R := fun y => (if i = h - tkD D m j then kpD D m j else if h - tkD D m j ≤ i then 0 else s.2 (8 + i)) = y) (fun z _ => absurd z e3) (fun z _ => absurd z e4) (fun z _ => absurd z e6) (fun z _ => absurd z e7) (fun z _ _ => absurd z e7) (fun _ _ z => by rw [if_pos (by omega)]) (fun _ _ _ _ z => ?_)
                  rw [if_neg (by omega)]
                  by_cases c : h - tkD D m j ≤ i
                  · rw [if_pos c, if_pos (by omega)]
                  · rw [if_neg c, if_neg (by omega)])
                refine ⟨_, _, r1, r2, r3, fun Q hQ => reach Q ⟨1, ?_⟩⟩
                unfold w_Verifier_findBehind_131
                refine ⟨fun _ => ⟨fun _ => ⟨fun _ => ⟨fun _ => ⟨fun _ => ⟨fun z => absurd (by rw [ep]; rfl) z, fun _ => ⟨yo11 hY1, c_kp hP hD hm hV1 hg hj ⟨yo11 hY1, c_adM hY1 (by omega) hkv a2 n8 z8 hQ⟩⟩⟩, fun z => absurd z ne7⟩, fun z => absurd z ne6⟩, fun z => absurd z ne4⟩, fun z => absurd z ne3⟩, fun c => absurd (Int32.le_refl _) c⟩
              · have ep0 : puD D m j = 0 := by
                  unfold puD at ep ⊢
                  by_cases c : cdD D m j = 47 ∨ cdD D m j = 48
                  · rw [if_pos c] at ep ⊢
                    by_cases c2 : rtD D m j = 0
                    · rw [if_pos c2]
                    · rw [if_neg c2] at ep; exact absurd rfl ep
                  · rw [if_neg c] at ep ⊢
                    have hx : ∀ k, k < 54 → puN.getD k 0 = 0 ∨ puN.getD k 0 = 1 ∨ k = 6 ∨ k = 7 := by decide
                    rcases hx (cdD D m j) (by omega) with z | z | z | z
                    · exact z
                    · exact absurd z ep
                    · exact absurd z e6
                    · exact absurd z e7
                obtain ⟨r1, r2, r3⟩ := fin M1 f1 (by rw [a2, ep0]; rfl) (zk_cg n7 (loc e4)) (zk_cg n8 (fun i hi => by
                  refine bhK_c2 (R := fun y => (if h - tkD D m j ≤ i then 0 else s.2 (8 + i)) = y) (fun z _ => absurd z e3) (fun z _ => absurd z e4) (fun z _ => absurd z e6) (fun z _ => absurd z e7) (fun z _ _ => absurd z e7) (fun _ z _ => absurd z ep) (fun _ _ _ _ _ => ?_)
                  by_cases c : h - tkD D m j ≤ i
                  · rw [if_pos c, if_pos (by omega)]
                  · rw [if_neg c, if_neg (by omega)]))
                refine ⟨_, _, r1, r2, r3, fun Q hQ => reach Q ⟨1, ?_⟩⟩
                unfold w_Verifier_findBehind_131
                exact ⟨fun _ => ⟨fun _ => ⟨fun _ => ⟨fun _ => ⟨fun _ => ⟨fun _ => hQ, fun z => by rw [ep0] at z; exact absurd z (by decide)⟩, fun z => absurd z ne7⟩, fun z => absurd z ne6⟩, fun z => absurd z ne4⟩, fun z => absurd z ne3⟩, fun c => absurd (Int32.le_refl _) c⟩
    · obtain ⟨c1, c2, c3⟩ := clash (1, fun _ => 0) rfl
      refine ⟨_, (1, fun _ => 0), c2, Or.inr (Or.inl ⟨s2, by rw [hh']; exact ok, rfl⟩), c1, fun Q hQ => start Q ⟨fun _ => c3 Q hQ, fun c => ⟨fun c2' => ?_, fun _ => c3 Q hQ⟩⟩⟩
      exfalso
      rw [N_lt (by omega) (by omega)] at c
      rw [N_sub (by omega), N_add, N_le (by omega) (by omega)] at c2'
      exact ok ⟨by omega, by omega⟩
