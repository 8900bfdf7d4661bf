/-! ===== pure: the class joins kinds ===== -/
theorem N_dec (c : Nat) : N c + (-1) = N c - N 1 := by rw [Int32.sub_eq_add_neg]; rfl
theorem c_top {x : Nat} {M : eM} {Q : Int32 → eM → Prop} (hx : x < 256) : ∀ c, c ≤ 8 → Q (N (topK (fun d => x.testBit d) c)) M → ∃ n, w_Verifier_join_93 n (N x) (N c - N 1) M Q := by
  intro c
  induction c with
  | zero =>
    intro _ hQ
    refine ⟨1, ?_⟩
    unfold w_Verifier_join_93
    exact ⟨fun _ => hQ, fun z => absurd (by decide) z⟩
  | succ c ih =>
    intro hc hQ
    have hb := N_bit0 x hx c (by omega)
    unfold topK at hQ
    rw [N_sub (by omega), Nat.add_sub_cancel]
    by_cases e : x.testBit c = true
    · rw [if_pos e] at hQ
      refine ⟨1, ?_⟩
      unfold w_Verifier_join_93
      simp (disch := omega) only [N_lit, N_lt, N_add]
      exact ⟨fun z => absurd z (by omega), fun _ => ⟨fun z => by rw [hb.1 z] at e; exact absurd e (by decide), fun _ => hQ⟩⟩
    · rw [if_neg e] at hQ
      obtain ⟨n, hn⟩ := ih (by omega) hQ
      refine ⟨n + 1, ?_⟩
      unfold w_Verifier_join_93
      simp (disch := omega) only [N_lit, N_lt, N_add]
      rw [← Int32.sub_eq_add_neg]
      exact ⟨fun z => absurd z (by omega), fun _ => ⟨fun _ => hn, fun z => absurd (hb.2 (by cases h : x.testBit c <;> simp_all)) z⟩⟩
theorem vk_lt {nC k : Nat} (hC : nC ≤ 8) (h : vk nC k) : k < 24 := by unfold vk at h; omega
theorem c_isRef {k : Nat} {M : eM} {Q : Int32 → eM → Prop} (hk : k < 256) (h1 : k = 2 ∨ 15 ≤ k → Q 1 M) (h0 : ¬ (k = 2 ∨ 15 ≤ k) → Q 0 M) : w_Program_isReference (N k) M Q := by
  unfold w_Program_isReference w_Program_isReference_11 w_Program_isReference_16
  simp (disch := omega) only [N_lit, N_eq, N_lt]
  refine ⟨fun e => ⟨Or.inr trivial, h1 (Or.inl e)⟩, fun e => ⟨fun z => ⟨Or.inl trivial, h0 (by omega)⟩, fun z => ⟨Or.inr trivial, h1 (by omega)⟩⟩⟩
theorem topK_ext {f g : Nat → Bool} : ∀ n, (∀ c, c < n → f c = g c) → topK f n = topK g n
  | 0, _ => rfl
  | n + 1, h => by unfold topK; rw [h n (by omega), topK_ext n (fun c hc => h c (by omega))]
theorem c_join {L xs P D m M a b} {Q : Int32 → eM → Prop} (hP : PP P) (hD : KD D) (hV : VC L xs P D m M) (ha : vk (D 0 0) a) (hb : vk (D 0 0) b) (hQ : Q (N (jn D a b)) M) : w_Verifier_join 11 (N a) (N b) M Q := by
  obtain ⟨hY, h3, h4, hK, hB⟩ := hV
  have hC := hD.1.1
  have a24 := vk_lt hC ha
  have b24 := vk_lt hC hb
  unfold jn at hQ
  have h59 : ¬ a = b → ¬ (a = 3 ∧ (b = 2 ∨ 15 ≤ b)) → ¬ (b = 3 ∧ (a = 2 ∨ 15 ≤ a)) → ¬ (a < 15 ∨ b < 15) → (a = 15 ∨ b = 15) → w_Verifier_join_59 M Q := by
    intro c1 c2 c3 c4 c5
    rw [if_neg c1, if_neg c2, if_neg c3, if_neg c4, if_pos c5] at hQ
    unfold w_Verifier_join_59 w_Verifier_join_88
    refine c_top (x := 0) (by omega) 8 (by omega) ?_
    rcases topK_spec (fun d => Nat.testBit 0 d) 8 with ⟨e, _⟩ | ⟨c, _, _, e, _⟩
    · rw [e]; exact hQ
    · rw [Nat.zero_testBit] at e; exact absurd e (by decide)
  have h33 : ¬ a = b → ¬ (a = 3 ∧ (b = 2 ∨ 15 ≤ b)) → ¬ (b = 3 ∧ (a = 2 ∨ 15 ≤ a)) → w_Verifier_join_33 11 (N a) (N b) M Q := by
    intro c1 c2 c3
    have g59 := h59 c1 c2 c3
    rw [if_neg c1, if_neg c2, if_neg c3] at hQ
    unfold w_Verifier_join_33 w_Verifier_join_45
    simp (disch := omega) only [N_lit, N_eq, N_lt, N_le, yo11 hY, h3, po hY hP, true_and, pr4 hY hP]
    refine ⟨fun c => by rw [if_pos (Or.inl c)] at hQ; exact hQ, fun c4 => ⟨fun c5 => ⟨fun c => g59 (by omega) (Or.inl c), fun c6 => ⟨fun c7 => ?_, fun c => g59 (by omega) (Or.inr c)⟩⟩, fun c => by rw [if_pos (by omega)] at hQ; exact hQ⟩⟩
    rw [if_neg (by omega), if_neg (by omega)] at hQ
    have a1 : a - 16 < D 0 0 ∧ 16 ≤ a := by unfold vk at ha; omega
    have b1 : b - 16 < D 0 0 ∧ 16 ≤ b := by unfold vk at hb; omega
    have ma := (hD.2.1 _ a1.1).1.2.1
    have mb := (hD.2.1 _ b1.1).1.2.1
    rw [N_sub a1.2, N_sub b1.2]
    simp (disch := omega) only [pi3 hY hP, N_in, N_nat, (hK.2.2.1 _ a1.1).1, (hK.2.2.1 _ b1.1).1, N_and]
    refine ⟨by omega, by omega, ?_⟩
    unfold w_Verifier_join_88
    refine c_top (x := D 4 (a - 16) &&& D 4 (b - 16)) (Nat.lt_of_le_of_lt Nat.and_le_left ma) 8 (by omega) ?_
    rw [topK_ext (g := cmB D a b) 8 (fun c _ => by unfold cmB; rw [Nat.testBit_and])]
    exact hQ
  have h19 : ¬ a = b → ¬ (a = 3 ∧ (b = 2 ∨ 15 ≤ b)) → w_Verifier_join_19 11 (N a) (N b) M Q := by
    intro c1 c2
    unfold w_Verifier_join_19
    rw [show (3 : Int32) = N 3 from rfl, N_eq (by omega) (by omega)]
    refine ⟨fun c => h33 c1 c2 (by omega), fun c => c_isRef (by omega) (fun z => ⟨fun y => absurd y (by decide), fun _ => ?_⟩) (fun z => ⟨fun _ => h33 c1 c2 (by omega), fun y => absurd rfl y⟩)⟩
    rw [if_neg c1, if_neg c2, if_pos ⟨c, z⟩] at hQ
    exact hQ
  unfold w_Verifier_join w_Verifier_join_17
  rw [show (3 : Int32) = N 3 from rfl, N_eq (by omega) (by omega), N_eq (by omega) (by omega)]
  refine ⟨fun e => by rw [if_pos e] at hQ; exact hQ, fun c1 => ⟨fun c => h19 c1 (by omega), fun c => c_isRef (by omega) (fun z => ⟨fun y => absurd y (by decide), fun _ => ?_⟩) (fun z => ⟨fun _ => h19 c1 (by omega), fun y => absurd rfl y⟩)⟩⟩
  rw [if_neg c1, if_pos ⟨c, z⟩] at hQ
  exact hQ
theorem jn_rf {F : eF} (a : Nat) : jn F a a = a := by unfold jn; rw [if_pos rfl]
theorem c_joined {L xs P D m M} {x y : Int64} {k k' : Nat → Nat} (hP : PP P) (hD : KD D) (hV : VC L xs P D m M) (hx : PKr x k) (hy : PKr y k') (hk : ∀ i, i < 8 → vk (D 0 0) (k i)) (hk' : ∀ i, i < 8 → vk (D 0 0) (k' i)) : ∃ z, PKr z (fun i => if i < 8 then jn D (k i) (k' i) else 0) ∧ ∀ Q : Int64 → eM → Prop, Q z M → w_Verifier_joined 11 x y M Q := by
  have hC := hD.1.1
  have hY := hV.1
  by_cases e : x = y
  · refine ⟨x, zk_cg hx (fun i hi => ?_), fun Q hQ => ?_⟩
    · have : k i = k' i := (zk_eq hx hy (fun i hi => by have := vk_lt hC (hk i hi); omega) (fun i hi => by have := vk_lt hC (hk' i hi); omega)).1 e i hi
      show _ = if i < 8 then _ else _
      rw [if_pos hi, ← this, jn_rf]
    · unfold w_Verifier_joined
      exact ⟨fun c => absurd (lg0.2 e) c, fun _ => hQ⟩
  · have key : ∀ r i (w : Int64), i + r = 8 → PKr w (fun j => if j < i then jn D (k j) (k' j) else 0) → ∃ z, PKr z (fun i => if i < 8 then jn D (k i) (k' i) else 0) ∧ ∀ Q : Int64 → eM → Prop, Q z M → ∃ n, w_Verifier_joined_14 n 11 x y w (N i) M Q := by
      intro r
      induction r with
      | zero =>
        intro i w hi hw
        have : i = 8 := by omega
        subst this
        refine ⟨w, hw, fun Q hQ => ⟨1, ?_⟩⟩
        unfold w_Verifier_joined_14
        simp (disch := omega) only [N_lit, N_le]
        exact ⟨fun _ => hQ, fun c => absurd (by omega) c⟩
      | succ r ih =>
        intro i w hi hw
        have v1 := hk i (by omega)
        have v2 := hk' i (by omega)
        have vj := jn_vk hC hD.cl v1 v2
        have l1 := vk_lt hC v1
        have l2 := vk_lt hC v2
        have l3 := vk_lt hC vj
        obtain ⟨z, z1, z2⟩ := ih (i + 1) _ (by omega) (zk_cg (zk_or hw (i := i) (v := jn D (k i) (k' i)) (by omega) (by show (if i < i then _ else _) = _; rw [if_neg (by omega)]) (by omega)) (fun j hj => by
          show (if j = i then _ else if j < i then _ else _) = if j < i + 1 then _ else _
          by_cases c : j = i
          · rw [if_pos c, if_pos (by omega), c]
          · rw [if_neg c]
            by_cases c2 : j < i
            · rw [if_pos c2, if_pos (by omega)]
            · rw [if_neg c2, if_neg (by omega)]))
        refine ⟨z, z1, fun Q hQ => ?_⟩
        obtain ⟨n, hn⟩ := z2 Q hQ
        refine ⟨n + 1, ?_⟩
        unfold w_Verifier_joined_14 w_Program_kindIn
        refine ⟨fun c => ?_, fun _ => ?_⟩
        · rw [show (8 : Int32) = N 8 from rfl, N_le (by omega) (by omega)] at c; omega
        · rw [zk_get hx (by omega) (by omega), zk_get hy (by omega) (by omega)]
          refine ⟨yo11 hY, c_join hP hD hV v1 v2 ?_⟩
          rw [show (1 : Int32) = N 1 from rfl, N_add]
          exact hn
    obtain ⟨z, z1, z2⟩ := key 8 0 0 rfl (zk_cg zk_0 (fun j _ => by show 0 = if j < 0 then _ else _; rw [if_neg (by omega)]))
    refine ⟨z, z1, fun Q hQ => ?_⟩
    unfold w_Verifier_joined
    exact ⟨fun _ => z2 Q hQ, fun c => absurd (lg0.1 c) e⟩
