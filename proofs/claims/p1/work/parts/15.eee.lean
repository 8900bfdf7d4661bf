/-! ===== steps enough: a run without their number ===== -/
theorem e_args_ge : ∀ (av : List Value) (i j : Nat) (v : Value), (j, v) ∈ lv_args i av → i ≤ j
  | [], _, _, _, h => by cases h
  | u :: av, i, j, v, h => by
    rw [lv_args] at h
    rcases List.mem_cons.mp h with e | h
    · cases e; exact Nat.le_refl _
    · have := e_args_ge av _ j v h
      split at this <;> omega
theorem e_args_fun : ∀ (av : List Value) (i : Nat), e_fun (lv_args i av)
  | [], _ => fun _ _ _ h => by cases h
  | u :: av, i => by
    intro j v x h1 h2
    rw [lv_args] at h1 h2
    rcases List.mem_cons.mp h1 with e1 | h1
    · rcases List.mem_cons.mp h2 with e2 | h2
      · cases e1; cases e2; rfl
      · cases e1
        have := e_args_ge av _ i x h2
        split at this <;> omega
    · rcases List.mem_cons.mp h2 with e2 | h2
      · cases e2
        have := e_args_ge av _ i v h1
        split at this <;> omega
      · exact e_args_fun av _ j v x h1 h2
theorem e_wk : ∀ (n i d kc ks pc : Nat) (lv : eL) (st : List Value) (M : eM) (Q : eQ), e_wp n i d kc ks pc lv st M Q → ∀ (n2 : Nat), n ≤ n2 → ∀ (lv2 : eL), e_sub lv lv2 → e_fun lv2 → ∀ (Q2 : eQ), (∀ v M, Q v M → Q2 v M) → e_wp n2 i d kc ks pc lv2 st M Q2 := by
  intro n
  induction n with
  | zero => intro i d kc ks pc lv st M Q h; exact False.elim h
  | succ n ih =>
    intro i d kc ks pc lv st M Q h n2 hn lv2 hs hf Q2 hQ
    obtain ⟨n3, rfl⟩ : ∃ n3, n2 = n3 + 1 := ⟨n2 - 1, by omega⟩
    have hn3 : n ≤ n3 := by omega
    unfold e_wp at h ⊢
    cases hq : e_dec i pc with
    | none => rw [hq] at h; exact False.elim h
    | some q =>
      rw [hq] at h
      rcases e_pick h hs hf with ⟨kc', ks', pc', lv', st', M', lv2', hk, -, hs', hf', mk⟩ | ⟨j, mc, ms, av, M', rest, hk, mk⟩ | ⟨v, hv, mk⟩
      · exact mk _ _ _ (ih _ _ _ _ _ _ _ _ _ hk n3 hn3 lv2' hs' hf' Q2 hQ)
      · obtain ⟨d', hd, hj, hnf, hlen, hw⟩ := hk
        exact mk _ _ _ ⟨d', hd, hj, hnf, hlen, ih _ _ _ _ _ _ _ _ _ hw n3 hn3 _ (fun _ z => z) (e_args_fun av 0) _ (fun v M'' g => ih _ _ _ _ _ _ _ _ _ g n3 hn3 lv2 hs hf Q2 hQ)⟩
      · exact mk _ _ _ (hQ _ _ hv)
theorem e_ex : ∀ (n i d kc ks pc : Nat) (lv : eL) (st : List Value) (M : eM) (P : Nat → eQ), (∀ N N' v M, N ≤ N' → P N v M → P N' v M) → e_fun lv → e_wp n i d kc ks pc lv st M (fun v M' => ∃ N, P N v M') → ∃ N, e_wp n i d kc ks pc lv st M (P N) := by
  intro n
  induction n with
  | zero => intro i d kc ks pc lv st M P _ _ h; exact False.elim h
  | succ n ih =>
    intro i d kc ks pc lv st M P hP hf h
    unfold e_wp at h ⊢
    cases hq : e_dec i pc with
    | none => rw [hq] at h; exact False.elim h
    | some q =>
      rw [hq] at h
      rcases e_pick h (fun _ z => z) hf with ⟨kc', ks', pc', lv', st', M', lv2', hk, hff, hs', hf', mk⟩ | ⟨j, mc, ms, av, M', rest, hk, mk⟩ | ⟨v, ⟨N, hv⟩, mk⟩
      · have h1 := e_wk _ _ _ _ _ _ _ _ _ _ hk n (Nat.le_refl _) lv2' hs' hf' _ (fun _ _ z => z)
        obtain ⟨N, hN⟩ := ih _ _ _ _ _ _ _ _ P hP hf' h1
        exact ⟨N, mk _ _ _ hN⟩
      · obtain ⟨d', hd, hj, hnf, hlen, hw⟩ := hk
        have h1 := e_wk _ _ _ _ _ _ _ _ _ _ hw n (Nat.le_refl _) _ (fun _ z => z) (e_args_fun av 0) (fun v M'' => ∃ N, e_wp n i d (kc - mc) (ks - ms) (pc + 3) lv (v.toList ++ rest) M'' (P N)) (fun v M'' g => ih _ _ _ _ _ _ _ _ P hP hf g)
        obtain ⟨N, hN⟩ := ih _ _ _ _ _ _ _ _ (fun N v M'' => e_wp n i d (kc - mc) (ks - ms) (pc + 3) lv (v.toList ++ rest) M'' (P N)) (fun N N' v M'' hNN g => e_wk _ _ _ _ _ _ _ _ _ _ g n (Nat.le_refl _) lv (fun _ z => z) hf _ (fun v M z => hP N N' v M hNN z)) (e_args_fun av 0) h1
        exact ⟨N, mk _ _ _ ⟨d', hd, hj, hnf, hlen, hN⟩⟩
      · exact ⟨N, mk _ _ _ hv⟩
/-- from this place on the method returns, and Q holds then -/
def e_E (i d kc ks pc : Nat) (lv : eL) (st : List Value) (M : eM) (Q : eQ) : Prop := e_fun lv → ∃ n, e_wp n i d kc ks pc lv st M Q
/-- a whole call -/
def e_C (j d mc ms : Nat) (av : List Value) (M : eM) (K : eQ) : Prop := e_E j d mc ms 0 (lv_args 0 av) [] M K
/-- an instruction of a run -/
theorem e_st {i d kc ks pc : Nat} {lv : eL} {st : List Value} {M : eM} {Q : eQ} {q : eI} (hq : e_dec i pc = some q)
    (h : e_ins (e_m i).2.2.1 (fun kc' ks' pc' lv' st' M' => e_E i d kc' ks' pc' lv' st' M' Q) (fun j mc ms av M' K => ∃ d', d = d' + 1 ∧ j < 79 ∧ e_nf j = true ∧ (lg_sl av).length ≤ (e_m j).2.2.1 ∧ e_C j d' mc ms av M' K) Q (e_m i).2.2.2.1 kc ks pc q lv st M) : e_E i d kc ks pc lv st M Q := by
  intro hf
  rcases e_pick h (fun _ z => z) hf with ⟨kc', ks', pc', lv', st', M', lv2', hk, hff, hs', hf', mk⟩ | ⟨j, mc, ms, av, M', rest, hk, mk⟩ | ⟨v, hv, mk⟩
  · obtain ⟨n, hn⟩ := hk (hff hf)
    refine ⟨n + 1, ?_⟩
    unfold e_wp
    rw [hq]
    exact mk _ _ _ (e_wk _ _ _ _ _ _ _ _ _ _ hn n (Nat.le_refl _) lv2' hs' hf' _ (fun _ _ z => z))
  · obtain ⟨d', hd, hj, hnf, hlen, hw⟩ := hk
    obtain ⟨n1, hw⟩ := hw (e_args_fun av 0)
    have h1 := e_wk _ _ _ _ _ _ _ _ _ _ hw n1 (Nat.le_refl _) _ (fun _ z => z) (e_args_fun av 0) (fun v M'' => ∃ N, e_wp N i d (kc - mc) (ks - ms) (pc + 3) lv (v.toList ++ rest) M'' Q) (fun v M'' g => g hf)
    obtain ⟨N, hN⟩ := e_ex _ _ _ _ _ _ _ _ _ (fun N v M'' => e_wp N i d (kc - mc) (ks - ms) (pc + 3) lv (v.toList ++ rest) M'' Q) (fun N N' v M'' hNN g => e_wk _ _ _ _ _ _ _ _ _ _ g N' hNN lv (fun _ z => z) hf _ (fun _ _ z => z)) (e_args_fun av 0) h1
    refine ⟨max n1 N + 1, ?_⟩
    unfold e_wp
    rw [hq]
    exact mk _ _ _ ⟨d', hd, hj, hnf, hlen, e_wk _ _ _ _ _ _ _ _ _ _ hN _ (Nat.le_max_left _ _) _ (fun _ z => z) (e_args_fun av 0) _ (fun v M'' g => e_wk _ _ _ _ _ _ _ _ _ _ g _ (Nat.le_max_right _ _) lv (fun _ z => z) hf _ (fun _ _ z => z))⟩
  · refine ⟨1, ?_⟩
    unfold e_wp
    rw [hq]
    exact mk _ _ _ hv
/-- fewer locals are enough -/
theorem e_E.less {i d kc ks pc : Nat} {lv lv2 : eL} {st : List Value} {M : eM} {Q : eQ} (h : e_E i d kc ks pc lv st M Q) (hs : e_sub lv lv2) : e_E i d kc ks pc lv2 st M Q := by
  intro hf
  obtain ⟨n, hn⟩ := h (fun j v u h1 h2 => hf j v u (hs _ h1) (hs _ h2))
  exact ⟨n, e_wk _ _ _ _ _ _ _ _ _ _ hn n (Nat.le_refl _) lv2 hs hf _ (fun _ _ z => z)⟩
theorem e_E.post {i d kc ks pc : Nat} {lv : eL} {st : List Value} {M : eM} {Q Q2 : eQ} (h : e_E i d kc ks pc lv st M Q) (hQ : ∀ v M, Q v M → Q2 v M) : e_E i d kc ks pc lv st M Q2 := by
  intro hf
  obtain ⟨n, hn⟩ := h hf
  exact ⟨n, e_wk _ _ _ _ _ _ _ _ _ _ hn n (Nat.le_refl _) lv (fun _ z => z) hf _ hQ⟩
/-- the contract on the real machine -/
theorem e_C.met (hOk : ∀ i, i < 79 → e_Ok i) (hOkM : ∀ j, j < 79 → e_OkM j) (l : Launch) (w : eW) {j d mc ms : Nat} {av : List Value} {M : eM} {K : eQ} (hj : j < 79) (hnf : e_nf j = true) (hlen : (lg_sl av).length ≤ (e_m j).2.2.1) (h : e_C j d mc ms av M K) : Met l (e_m j).1 (e_ws j) (e_rm d mc ms) (e_Pc w av M) (e_Qc w K) mc ms (e_A w) := by
  obtain ⟨n, hn⟩ := h (e_args_fun av 0)
  exact e_met hOk hOkM l w hj hnf hlen hn
