theorem bhK_c2 {D m j h} {k : Nat → Nat} {i : Nat} {R : Nat → Prop} (h3 : cdD D m j = 3 → i = 8 + h → R (k (cdD D m (j + 1)))) (h4 : cdD D m j = 4 → i = cdD D m (j + 1) → R (k (8 + h - 1))) (h6 : cdD D m j = 6 → i = 8 + h - 1 ∨ i = 8 + h → R (k (8 + h - 1))) (h7 : cdD D m j = 7 → i = 8 + h - 2 → R (k (8 + h - 1))) (h8 : cdD D m j = 7 → i ≠ 8 + h - 2 → i = 8 + h - 1 → R (k (8 + h - 2))) (h9 : (cdD D m j ≠ 3 ∧ cdD D m j ≠ 4 ∧ cdD D m j ≠ 6 ∧ cdD D m j ≠ 7) → puD D m j = 1 → i = 8 + (h - tkD D m j) → R (kpD D m j))
    (h0 : ¬ (cdD D m j = 3 ∧ i = 8 + h) → ¬ (cdD D m j = 4 ∧ i = cdD D m (j + 1)) → ¬ (cdD D m j = 6 ∧ (i = 8 + h - 1 ∨ i = 8 + h)) → ¬ (cdD D m j = 7 ∧ (i = 8 + h - 2 ∨ i = 8 + h - 1)) → ¬ ((cdD D m j ≠ 3 ∧ cdD D m j ≠ 4 ∧ cdD D m j ≠ 6 ∧ cdD D m j ≠ 7) ∧ puD D m j = 1 ∧ i = 8 + (h - tkD D m j)) → R (if 8 + (h - tkD D m j) ≤ i then 0 else k i)) : R (bhK D m j h k i) := by
  unfold bhK
  by_cases c1 : cdD D m j = 3 ∧ i = 8 + h
  · rw [if_pos c1]; exact h3 c1.1 c1.2
  rw [if_neg c1]
  by_cases c2 : cdD D m j = 4 ∧ i = cdD D m (j + 1)
  · rw [if_pos c2]; exact h4 c2.1 c2.2
  rw [if_neg c2]
  by_cases c3 : cdD D m j = 6 ∧ (i = 8 + h - 1 ∨ i = 8 + h)
  · rw [if_pos c3]; exact h6 c3.1 c3.2
  rw [if_neg c3]
  by_cases c4 : cdD D m j = 7 ∧ i = 8 + h - 2
  · rw [if_pos c4]; exact h7 c4.1 c4.2
  rw [if_neg c4]
  by_cases c5 : cdD D m j = 7 ∧ i = 8 + h - 1
  · rw [if_pos c5]; exact h8 c5.1 (fun z => c4 ⟨c5.1, z⟩) c5.2
  rw [if_neg c5]
  by_cases c6 : (cdD D m j ≠ 3 ∧ cdD D m j ≠ 4 ∧ cdD D m j ≠ 6 ∧ cdD D m j ≠ 7) ∧ puD D m j = 1 ∧ i = 8 + (h - tkD D m j)
  · rw [if_pos c6]; exact h9 c6.1 c6.2.1 c6.2.2
  rw [if_neg c6]
  exact h0 c1 c2 c3 (by
    rintro ⟨e, z | z⟩
    · exact c4 ⟨e, z⟩
    · exact c5 ⟨e, z⟩) c6
abbrev oVi : Nat → Nat → Prop := fun a j => a = 11 ∧ j = 6
abbrev oVl : Nat → Nat → Prop := fun a j => a = 11 ∧ (j = 7 ∨ j = 8)
theorem c_add {L xs M h v} {ks : Nat → Nat} {Q : eM → Prop} (hY : Y L xs M) (hh : h < 8) (hv : v < 256) (h6 : gi M 11 6 = N h) (h8 : PKr (gl M 11 8) ks) (h0 : ks h = 0) (hQ : ∀ M2, M2 = e_si (e_sl M 11 8 ((gl M 11 8) ||| (((N v).toInt64) <<< ((8 * N h).toInt64 &&& 63)))) 11 6 (N (h + 1)) → gi M2 11 6 = N (h + 1) → PKr (gl M2 11 8) (fun i => if i = h then v else ks i) → gl M2 11 7 = gl M 11 7 → FX oVi oVl M M2 → Q M2) : w_Verifier_addKind 11 (N v) M Q := by
  unfold w_Verifier_addKind
  rw [h6]
  refine ⟨yo11 hY, yo11 hY, yo11 hY, fun M1 e1 => ?_⟩
  subst e1
  refine ⟨yo11 hY, yo11 hY, fun M2 e2 => ?_⟩
  have e3 : gi (e_sl M 11 8 ((gl M 11 8) ||| (((N v).toInt64) <<< ((8 * N h).toInt64 &&& 63)))) 11 6 + 1 = N (h + 1) := by
    rw [gi_sl, h6, show (1 : Int32) = N 1 from rfl, N_add]
  rw [e3] at e2
  refine hQ M2 e2 (by rw [e2, gs]) ?_ (by rw [e2, gl_si, gld (by omega)]) (by rw [e2]; exact FX.si (FX.sl (FX.rf M) ⟨rfl, Or.inr rfl⟩) ⟨rfl, rfl⟩)
  rw [e2, gl_si, gls]
  exact zk_or h8 hh h0 hv
theorem c_dropL {L xs M h tk} {ks : Nat → Nat} {l1 l2 l5 l6 l7 : Int32} (hY : Y L xs M) (hh : h ≤ 8) (ht : tk ≤ h) (h6 : gi M 11 6 = N h) (h8 : PKr (gl M 11 8) ks) : ∃ M1, FX oVi oVl M M1 ∧ gi M1 11 6 = N (h - tk) ∧ gl M1 11 7 = gl M 11 7 ∧ PKr (gl M1 11 8) (fun x => if h - tk ≤ x ∧ x < h then 0 else ks x) ∧ ∀ Q : eM → Prop, (∃ n, w_Verifier_findBehind_131 n 11 l1 l2 (N tk) l5 l6 l7 (N tk) M1 Q) → ∃ n, w_Verifier_findBehind_131 n 11 l1 l2 (N tk) l5 l6 l7 (N 0) M Q := by
  obtain ⟨M1, ⟨a1, a2, a3, a4⟩, a5⟩ := lpO (W := fun n i M (Q : eM → Prop) => w_Verifier_findBehind_131 n 11 l1 l2 (N tk) l5 l6 l7 (N i) M Q) (I := fun i M1 => FX oVi oVl M M1 ∧ gi M1 11 6 = N (h - i) ∧ gl M1 11 7 = gl M 11 7 ∧ PKr (gl M1 11 8) (fun x => if h - i ≤ x ∧ x < h then 0 else ks x)) (hi := tk) (fun i M1 hi ⟨q1, q2, q3, q4⟩ => by
    have hY1 : Y L xs M1 := q1.Y (fun a j ha => by unfold oVi; omega) hY
    refine ⟨e_sl (e_si M1 11 6 (N (h - (i + 1)))) 11 8 ((gl M1 11 8) &&& ((255 <<< ((8 * (N (h - (i + 1)))).toInt64 &&& 63)) ^^^ (-1))), ⟨FX.sl (FX.si q1 ⟨rfl, rfl⟩) ⟨rfl, Or.inr rfl⟩, by rw [gi_sl, gs], by rw [gld (by omega), gl_si]; exact q3, ?_⟩, fun n Q hn => ?_⟩
    · rw [gls]
      refine zk_cg (zk_and q4 (by omega)) (fun x hx => ?_)
      show (if x = h - (i + 1) then 0 else if h - i ≤ x ∧ x < h then 0 else ks x) = if h - (i + 1) ≤ x ∧ x < h then 0 else ks x
      by_cases c : x = h - (i + 1)
      · rw [if_pos c, if_pos (by omega)]
      · rw [if_neg c]
        by_cases c2 : h - i ≤ x ∧ x < h
        · rw [if_pos c2, if_pos (by omega)]
        · rw [if_neg c2, if_neg (by omega)]
    · unfold w_Verifier_findBehind_131 w_Verifier_dropKind
      refine ⟨fun c => ?_, fun _ => ⟨yo11 hY1, yo11 hY1, yo11 hY1, fun M1' e1 => ?_⟩⟩
      · rw [N_le (by omega) (by omega)] at c; omega
      · have e9 : gi M1 11 6 - 1 = N (h - (i + 1)) := by rw [q2, show (1 : Int32) = N 1 from rfl, N_sub (by omega), show h - i - 1 = h - (i + 1) by omega]
        rw [e9] at e1
        subst e1
        refine ⟨yo11 hY1, yo11 hY1, yo11 hY1, fun M2 e2 => ?_⟩
        rw [gs, gl_si] at e2
        subst e2
        show w_Verifier_findBehind_131 n 11 l1 l2 (N tk) l5 l6 l7 (N i + N 1) _ Q
        rw [N_add]; exact hn) tk 0 M (by omega) ⟨FX.rf M, by rw [Nat.sub_zero]; exact h6, rfl, zk_cg h8 (fun x hx => by
      show ks x = if h - 0 ≤ x ∧ x < h then 0 else ks x
      rw [if_neg (by omega)])⟩
  exact ⟨M1, a1, a2, a3, a4, a5⟩
