/-! ===== the law over one call ===== -/
section LAW1
variable {xs : Nat → Int32} {M : eM} {Q : Int32 → eM → Prop}
theorem a_ai {L : Nat} (h1 : 292 ≤ M.1) (h2 : M.2.1 1 = (20, L)) (hL : L = 5) (i : Int32) (hi : vp_in i 5) : e_ai M 1 i := by
  subst hL
  exact ⟨by decide, by omega, by rw [h2], by rw [h2]; exact hi⟩
theorem a_end {L n kc ks : Nat} {l4 : Int32} (hK : 292 ≤ M.1) (h2 : M.2.1 1 = (20, L)) (hl : N L - 5 < l4) (hQ : Q 1 M) : w_Law_law_23 (n + 1) kc ks 1 8 241 291 l4 M Q := by
  have e1 : gt M 1 = 20 := by show (M.2.1 1).1 = 20; rw [h2]
  have e2 : Int32.ofNat (gn M 1) = N L := by show Int32.ofNat (M.2.1 1).2 = N L; rw [h2]; rfl
  unfold w_Law_law_23
  rw [e1, e2]
  exact ⟨Or.inl ⟨by decide, by omega, rfl⟩, fun _ => ⟨Or.inr rfl, hQ⟩, fun c => absurd hl c⟩
set_option maxRecDepth 100000 in
set_option maxHeartbeats 4000000 in
theorem a_one {kc ks : Nat} (h : y_I 5 xs 292 287 M) (hk : 1 ≤ kc) (hs : 6 ≤ ks) (hQ : ∀ M', Q 1 M') : w_Law_law_23 (1 + 1) kc ks 1 8 241 291 0 M Q := by
  have hJ := y_J.of h
  have hx : ∀ j, gi M 1 j = xs j := hJ.2.2.1
  have o8 := x_o8 h
  have e1 : gt M 1 = 20 := by show (M.2.1 1).1 = 20; rw [hJ.2.1]
  have e2 : Int32.ofNat (gn M 1) = N 5 := by show Int32.ofNat (M.2.1 1).2 = N 5; rw [hJ.2.1]; rfl
  have A := a_ai (L := 5) hJ.1 hJ.2.1 rfl
  have fin : ∀ (t : Int32) (M' : eM) (kc ks : Nat), y_K 5 t M' → w_Law_law_23 1 kc ks 1 8 241 291 (0 + 5) M' Q := fun t M' kc ks hK => a_end (n := 0) hK.1 hK.2.1 (by decide) (hQ M')
  unfold w_Law_law_23
  rw [e1, e2]
  refine ⟨Or.inl ⟨by decide, by have := hJ.1; omega, rfl⟩, fun c => absurd c (by decide), fun _ => ⟨A _ (by unfold vp_in; decide), ?_⟩⟩
  refine ⟨fun _ => ?_, fun _ => ?_⟩
  · refine ⟨A _ (by unfold vp_in; decide), A _ (by unfold vp_in; decide), A _ (by unfold vp_in; decide), o8, c_put h _ _ (fun hn M1 h1 => ?_) (fun hp M1 h1 => ?_)⟩
    · have A1 := a_ai (L := 5) h1.1 h1.2.1 rfl
      exact ⟨A1 _ (by unfold vp_in; decide), A1 _ (by unfold vp_in; decide), A1 _ (by unfold vp_in; decide), h1.ob, m_put h1 _ _ (fun _ M2 h2 => ⟨fun _ => fin _ _ _ _ h2, fun c => absurd rfl c⟩) (fun hp => absurd (by simp only [h1.2.2.1] at hp; simp only [hx]; exact hp) hn)⟩
    · have A1 := a_ai (L := 5) h1.1 h1.2.1 rfl
      exact ⟨A1 _ (by unfold vp_in; decide), A1 _ (by unfold vp_in; decide), A1 _ (by unfold vp_in; decide), h1.ob, m_put h1 _ _ (fun hn => absurd (by simp only [hx] at hp; simp only [h1.2.2.1]; exact hp) hn) (fun _ M2 h2 => ⟨fun _ => fin _ _ _ _ h2, fun c => absurd rfl c⟩)⟩
  refine ⟨fun _ => ?_, fun _ => ?_⟩
  · refine ⟨kc, ks, Nat.le_refl _, Nat.le_refl _, o8, ?_⟩
    refine c_load h hk hs (fun M1 hJ1 => ⟨fun _ g => ?_, rfl⟩)
    have h1 : y_J 5 xs 0 (e_gap M1 g) := hJ1.gap g
    have A1 := a_ai (L := 5) h1.1 h1.2.1 rfl
    exact ⟨h1.ob, m_load h1 (fun M2 h2 => ⟨h2.ob, m_thrown h2 ⟨fun _ => ⟨fun _ => fin _ _ _ _ h2, fun c => absurd c (by decide)⟩, fun c => absurd rfl c⟩⟩)⟩
  refine ⟨fun _ => ?_, fun _ => ?_⟩
  · exact ⟨A _ (by unfold vp_in; decide), o8, c_fault h _ ⟨A _ (by unfold vp_in; decide), hJ.ob, m_fault hJ _ (fun M2 h2 => ⟨fun _ => fin _ _ _ _ h2, fun c => absurd rfl c⟩)⟩⟩
  refine ⟨fun _ => ?_, fun _ => ?_⟩
  · exact ⟨A _ (by unfold vp_in; decide), A _ (by unfold vp_in; decide), A _ (by unfold vp_in; decide), o8, c_kind h _ _ _ ⟨A _ (by unfold vp_in; decide), A _ (by unfold vp_in; decide), A _ (by unfold vp_in; decide), hJ.ob, m_kind hJ _ _ _ (fun M2 h2 => ⟨fun _ => fin _ _ _ _ h2, fun c => absurd rfl c⟩)⟩⟩
  refine ⟨fun _ => ?_, fun _ => ?_⟩
  · refine ⟨A _ (by unfold vp_in; decide), A _ (by unfold vp_in; decide), A _ (by unfold vp_in; decide), A _ (by unfold vp_in; decide), o8, c_tiers h _ _ _ _ (fun hn M1 h1 => ?_) (fun hp M1 h1 => ?_)⟩
    · have A1 := a_ai (L := 5) h1.1 h1.2.1 rfl
      exact ⟨A1 _ (by unfold vp_in; decide), A1 _ (by unfold vp_in; decide), A1 _ (by unfold vp_in; decide), A1 _ (by unfold vp_in; decide), h1.ob, m_tiers h1 _ _ _ _ (fun _ M2 h2 => ⟨fun _ => fin _ _ _ _ h2, fun c => absurd rfl c⟩) (fun hp => absurd (by simp only [h1.2.2.1] at hp; simp only [hx]; exact hp) hn)⟩
    · have A1 := a_ai (L := 5) h1.1 h1.2.1 rfl
      exact ⟨A1 _ (by unfold vp_in; decide), A1 _ (by unfold vp_in; decide), A1 _ (by unfold vp_in; decide), A1 _ (by unfold vp_in; decide), h1.ob, m_tiers h1 _ _ _ _ (fun hn => absurd (by simp only [hx] at hp; simp only [h1.2.2.1]; exact hp) hn) (fun _ M2 h2 => ⟨fun _ => fin _ _ _ _ h2, fun c => absurd rfl c⟩)⟩
  refine ⟨fun _ => ?_, fun _ => ?_⟩
  · refine ⟨A _ (by unfold vp_in; decide), o8, c_room h _ (fun hn M1 h1 => ?_) (fun hp M1 h1 => ?_)⟩
    · have A1 := a_ai (L := 5) h1.1 h1.2.1 rfl
      exact ⟨A1 _ (by unfold vp_in; decide), h1.ob, m_room h1 _ (fun _ M2 h2 => ⟨fun _ => fin _ _ _ _ h2, fun c => absurd rfl c⟩) (fun hp => absurd (by simp only [h1.2.2.1] at hp; simp only [hx]; exact hp) hn)⟩
    · have A1 := a_ai (L := 5) h1.1 h1.2.1 rfl
      exact ⟨A1 _ (by unfold vp_in; decide), h1.ob, m_room h1 _ (fun hn => absurd (by simp only [hx] at hp; simp only [h1.2.2.1]; exact hp) hn) (fun _ M2 h2 => ⟨fun _ => fin _ _ _ _ h2, fun c => absurd rfl c⟩)⟩
  refine ⟨fun _ => ?_, fun _ => ?_⟩
  · refine ⟨A _ (by unfold vp_in; decide), o8, c_give h _ (fun M1 h1 => ?_)⟩
    have A1 := a_ai (L := 5) h1.1 h1.2.1 rfl
    exact ⟨A1 _ (by unfold vp_in; decide), h1.ob, m_give h1 _ (fun M2 h2 => ⟨fun _ => fin _ _ _ _ h2, fun c => absurd rfl c⟩)⟩
  refine ⟨fun _ => ?_, fun _ => ?_⟩
  · exact ⟨A _ (by unfold vp_in; decide), A _ (by unfold vp_in; decide), A _ (by unfold vp_in; decide), A _ (by unfold vp_in; decide), o8, c_start h _ _ _ _ ⟨A _ (by unfold vp_in; decide), A _ (by unfold vp_in; decide), A _ (by unfold vp_in; decide), A _ (by unfold vp_in; decide), hJ.ob, m_start hJ _ _ _ _ (fun M2 h2 => ⟨fun _ => fin _ _ _ _ h2, fun c => absurd rfl c⟩)⟩⟩
  refine ⟨fun _ => ?_, fun _ => ?_⟩
  · refine ⟨A _ (by unfold vp_in; decide), kc, ks, Nat.le_refl _, Nat.le_refl _, o8, ?_⟩
    refine c_run h _ hk hs (fun hn => ⟨fun _ g => ?_, fun c => absurd c (by decide), fun c => absurd c (by decide), Or.inl rfl⟩) (fun hp => ⟨fun c => absurd c (by decide), fun _ g => ?_, fun c => absurd c (by decide), Or.inr (Or.inl rfl)⟩)
    · have h1 : y_J 5 xs 0 (e_gap M g) := hJ.gap g
      have A1 := a_ai (L := 5) h1.1 h1.2.1 rfl
      exact ⟨A1 _ (by unfold vp_in; decide), h1.ob, m_run h1 _ (fun _ M2 h2 => ⟨h2.ob, m_thrown h2 ⟨fun _ => ⟨fun _ => fin _ _ _ _ h2, fun c => absurd c (by decide)⟩, fun c => absurd rfl c⟩⟩) (fun hp => absurd (by simp only [h1.2.2.1] at hp; simp only [hx]; exact hp) hn)⟩
    · have h1 : y_J 5 xs 0 (e_gap M g) := hJ.gap g
      have A1 := a_ai (L := 5) h1.1 h1.2.1 rfl
      exact ⟨A1 _ (by unfold vp_in; decide), h1.ob, m_run h1 _ (fun hn => absurd (by simp only [hx] at hp; simp only [h1.2.2.1]; exact hp) hn) (fun _ M2 h2 => ⟨h2.ob, m_thrown h2 ⟨fun _ => ⟨fun _ => fin _ _ _ _ h2, fun c => absurd c (by decide)⟩, fun c => absurd rfl c⟩⟩)⟩
  refine ⟨fun _ => ?_, fun _ => ?_⟩
  · exact ⟨o8, c_state h ⟨hJ.ob, m_state hJ (fun M2 h2 => ⟨fun _ => fin _ _ _ _ h2, fun c => absurd rfl c⟩)⟩⟩
  refine ⟨fun _ => ?_, fun _ => ?_⟩
  · exact ⟨A _ (by unfold vp_in; decide), o8, c_result h _ ⟨A _ (by unfold vp_in; decide), hJ.ob, m_result hJ _ (fun M2 h2 => ⟨fun _ => fin _ _ _ _ h2, fun c => absurd rfl c⟩)⟩⟩
  refine ⟨fun _ => ?_, fun _ => ?_⟩
  · refine ⟨A _ (by unfold vp_in; decide), kc, ks, Nat.le_refl _, Nat.le_refl _, o8, ?_⟩
    refine c_output h _ hk hs ⟨fun _ g => ?_, rfl⟩
    have h1 : y_J 5 xs 0 (e_gap M g) := hJ.gap g
    have A1 := a_ai (L := 5) h1.1 h1.2.1 rfl
    exact ⟨A1 _ (by unfold vp_in; decide), h1.ob, m_output h1 _ (fun M2 h2 => ⟨h2.ob, m_thrown h2 ⟨fun _ => ⟨fun _ => fin _ _ _ _ h2, fun c => absurd c (by decide)⟩, fun c => absurd rfl c⟩⟩)⟩
  refine ⟨fun _ => ?_, fun _ => ?_⟩
  · exact ⟨A _ (by unfold vp_in; decide), A _ (by unfold vp_in; decide), o8, c_frame h _ _ ⟨A _ (by unfold vp_in; decide), A _ (by unfold vp_in; decide), hJ.ob, m_frame hJ _ _ (fun M2 h2 => ⟨fun _ => fin _ _ _ _ h2, fun c => absurd rfl c⟩)⟩⟩
  refine ⟨fun _ => ?_, fun _ => ?_⟩
  · refine ⟨A _ (by unfold vp_in; decide), A _ (by unfold vp_in; decide), kc, ks, Nat.le_refl _, Nat.le_refl _, o8, ?_⟩
    refine c_local h _ _ hk hs ⟨fun _ g => ?_, rfl⟩
    have h1 : y_J 5 xs 0 (e_gap M g) := hJ.gap g
    have A1 := a_ai (L := 5) h1.1 h1.2.1 rfl
    exact ⟨A1 _ (by unfold vp_in; decide), A1 _ (by unfold vp_in; decide), h1.ob, m_local h1 _ _ (fun M2 h2 => ⟨h2.ob, m_thrown h2 ⟨fun _ => ⟨fun _ => fin _ _ _ _ h2, fun c => absurd c (by decide)⟩, fun c => absurd rfl c⟩⟩)⟩
  refine ⟨fun _ => ?_, fun _ => ?_⟩
  · refine ⟨A _ (by unfold vp_in; decide), A _ (by unfold vp_in; decide), A _ (by unfold vp_in; decide), kc, ks, Nat.le_refl _, Nat.le_refl _, o8, ?_⟩
    refine c_part h _ _ _ hk hs ⟨fun _ g => ?_, rfl⟩
    have h1 : y_J 5 xs 0 (e_gap M g) := hJ.gap g
    have A1 := a_ai (L := 5) h1.1 h1.2.1 rfl
    exact ⟨A1 _ (by unfold vp_in; decide), A1 _ (by unfold vp_in; decide), A1 _ (by unfold vp_in; decide), h1.ob, m_part h1 _ _ _ (fun M2 h2 => ⟨h2.ob, m_thrown h2 ⟨fun _ => ⟨fun _ => fin _ _ _ _ h2, fun c => absurd c (by decide)⟩, fun c => absurd rfl c⟩⟩)⟩
  refine ⟨fun _ => ?_, fun _ => ?_⟩
  · exact ⟨A _ (by unfold vp_in; decide), A _ (by unfold vp_in; decide), o8, c_method h _ _ ⟨A _ (by unfold vp_in; decide), A _ (by unfold vp_in; decide), hJ.ob, m_method hJ _ _ (fun M2 h2 => ⟨fun _ => fin _ _ _ _ h2, fun c => absurd rfl c⟩)⟩⟩
  refine ⟨fun _ => ?_, fun _ => ?_⟩
  · exact ⟨A _ (by unfold vp_in; decide), A _ (by unfold vp_in; decide), A _ (by unfold vp_in; decide), o8, c_inlined h _ _ _ ⟨A _ (by unfold vp_in; decide), A _ (by unfold vp_in; decide), A _ (by unfold vp_in; decide), hJ.ob, m_inlined hJ _ _ _ (fun M2 h2 => ⟨fun _ => fin _ _ _ _ h2, fun c => absurd rfl c⟩)⟩⟩
  refine ⟨fun _ => ?_, fun _ => ?_⟩
  · exact ⟨A _ (by unfold vp_in; decide), A _ (by unfold vp_in; decide), A _ (by unfold vp_in; decide), o8, c_profile h _ _ _ ⟨A _ (by unfold vp_in; decide), A _ (by unfold vp_in; decide), A _ (by unfold vp_in; decide), hJ.ob, m_profile hJ _ _ _ (fun M2 h2 => ⟨fun _ => fin _ _ _ _ h2, fun c => absurd rfl c⟩)⟩⟩
  refine ⟨fun _ => ?_, fun _ => ?_⟩
  · exact ⟨A _ (by unfold vp_in; decide), A _ (by unfold vp_in; decide), o8, c_log h _ _ ⟨A _ (by unfold vp_in; decide), A _ (by unfold vp_in; decide), hJ.ob, m_log hJ _ _ (fun M2 h2 => ⟨fun _ => fin _ _ _ _ h2, fun c => absurd rfl c⟩)⟩⟩
  refine ⟨fun _ => ?_, fun _ => ?_⟩
  · exact ⟨A _ (by unfold vp_in; decide), o8, c_total h _ ⟨A _ (by unfold vp_in; decide), hJ.ob, m_total hJ _ (fun M2 h2 => ⟨fun _ => fin _ _ _ _ h2, fun c => absurd rfl c⟩)⟩⟩
  exact fin _ _ _ _ hJ.k
end LAW1
