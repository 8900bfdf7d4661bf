/-! ===== pure: what a file says, by numbers ===== -/
/-- what holds of a file's numbers: D 0 0 classes, D 0 1 selectors, D 0 2 methods, D 0 3 bytes, D 1 the bytes; else by the model's cells, 4: masks, 5: where code begins, 56: the table resolved -/
def KD (D : eF) : Prop := (D 0 0 ≤ 8 ∧ D 0 1 ≤ 8 ∧ 1 ≤ D 0 2 ∧ D 0 2 ≤ 16 ∧ D 0 3 ≤ 1500 ∧ ∀ j, j < D 0 3 → D 1 j < 256) ∧
  (∀ c, c < D 0 0 → (D 163 c ≤ c ∧ D 4 c < 256 ∧ D 4 c = 2 ^ c ||| (if D 163 c = 0 then 0 else D 4 (D 163 c - 1)) ∧ D 164 c ≤ 8) ∧ ∀ f, f < D 164 c → vt (D 0 0) 1 (D 165 (c * 8 + f))) ∧
  (∀ s, s < D 0 1 → D 166 s ≤ 3 ∧ vt (D 0 0) 0 (D 168 s) ∧ ∀ i, i < D 166 s → vt (D 0 0) 1 (D 167 (3 * s + i))) ∧
  (∀ m, m < D 0 2 → (D 169 m ≤ 4 ∧ D 169 m ≤ D 172 m ∧ D 172 m ≤ 8 ∧ D 173 m ≤ 8 ∧ 1 ≤ D 174 m ∧ D 174 m ≤ 120 ∧ D 5 m + D 174 m ≤ D 0 3 ∧ ∀ m', m' < m → D 5 m' + D 174 m' ≤ D 5 m) ∧ vt (D 0 0) 0 (D 171 m) ∧ ∀ i, i < D 169 m → vt (D 0 0) 1 (D 170 (4 * m + i))) ∧
  (∀ c s, c < D 0 0 → s < D 0 1 → D 56 (c * 8 + s) ≤ D 0 2 ∧ D 177 (c * 8 + s) ≤ D 0 2 ∧ D 56 (c * 8 + s) = (if D 177 (c * 8 + s) ≠ 0 then D 177 (c * 8 + s) else if D 163 c = 0 then 0 else D 56 ((D 163 c - 1) * 8 + s)) ∧ (D 56 (c * 8 + s) ≠ 0 → D 169 (D 56 (c * 8 + s) - 1) = D 166 s + 1 ∧ D 171 (D 56 (c * 8 + s) - 1) = D 168 s ∧ 16 ≤ D 170 (4 * (D 56 (c * 8 + s) - 1)) ∧ (D 4 c).testBit (D 170 (4 * (D 56 (c * 8 + s) - 1)) - 16) = true ∧ ∀ i, i < D 166 s → D 170 (4 * (D 56 (c * 8 + s) - 1) + 1 + i) = D 167 (3 * s + i)))
/-- the class's cells -/
def KC (P : Nat) (D : eF) (M : eM) : Prop := (gi M P 1 = N (D 0 3) ∧ gi M P 2 = N (D 0 0) ∧ gi M P 7 = N (D 0 1) ∧ gi M P 9 = N (D 0 2)) ∧ (∀ j, j < D 0 3 → gi M (P + 1) j = N (D 1 j)) ∧
  (∀ c, c < D 0 0 → gi M (P + 3) c = N (D 4 c) ∧ gi M (P + 4) c = N (D 164 c) ∧ ∀ f, f < D 164 c → gi M (P + 5) (c * 8 + f) = N (D 165 (c * 8 + f))) ∧
  (∀ s, s < D 0 1 → gi M (P + 7 + 2 * s) 1 = N (D 166 s) ∧ gi M (P + 7 + 2 * s) 2 = N (D 168 s) ∧ ∀ i, i < D 166 s → gi M (P + 8 + 2 * s) i = N (D 167 (3 * s + i))) ∧
  (∀ m, m < D 0 2 → gi M (P + 24 + 2 * m) 1 = N (D 169 m) ∧ gi M (P + 24 + 2 * m) 2 = N (D 171 m) ∧ (∀ i, i < D 169 m → gi M (P + 25 + 2 * m) i = N (D 170 (4 * m + i))) ∧ gi M (P + 24 + 2 * m) 3 = N (D 172 m) ∧ gi M (P + 24 + 2 * m) 4 = N (D 173 m) ∧ gi M (P + 24 + 2 * m) 5 = N (D 5 m) ∧ gi M (P + 24 + 2 * m) 6 = N (D 174 m)) ∧
  (∀ c s, c < D 0 0 → s < D 0 1 → gi M (P + 56) (c * 8 + s) = N (D 56 (c * 8 + s)) - N 1)
/-- the model's cells -/
def KM (D : eF) (S : eM) : Prop := (gi S 159 11 = N (D 0 0) ∧ gi S 159 15 = N (D 0 1) ∧ gi S 159 19 = N (D 0 2)) ∧
  (∀ c, c < D 0 0 → gi S 163 c = N (D 163 c) - N 1 ∧ gi S 164 c = N (D 164 c) ∧ ∀ f, f < D 164 c → gi S 165 (c * 8 + f) = N (D 165 (c * 8 + f))) ∧
  (∀ s, s < D 0 1 → gi S 166 s = N (D 166 s) ∧ gi S 168 s = N (D 168 s) ∧ ∀ i, i < D 166 s → gi S 167 (3 * s + i) = N (D 167 (3 * s + i))) ∧
  (∀ m, m < D 0 2 → gi S 169 m = N (D 169 m) ∧ gi S 171 m = N (D 171 m) ∧ (∀ i, i < D 169 m → gi S 170 (4 * m + i) = N (D 170 (4 * m + i))) ∧ gi S 172 m = N (D 172 m) ∧ gi S 173 m = N (D 173 m) ∧ gi S 174 m = N (D 174 m) ∧ ∀ j, j < D 174 m → gi S 175 (120 * m + j) = N (D 1 (D 5 m + j))) ∧
  (∀ c s, c < D 0 0 → s < D 0 1 → gi S 177 (c * 8 + s) = N (D 177 (c * 8 + s)))
theorem tyv_nat {nC lo : Nat} {v : Int32} (hC : nC ≤ 8) (h : tyv nC lo v) : v = N v.toNatClampNeg ∧ vt nC lo v.toNatClampNeg := by
  obtain ⟨t, rfl, ht⟩ := h
  rw [N_nat (by unfold vt at ht; omega)]
  exact ⟨rfl, ht⟩
/-- the numbers of a file that is read -/
def mkD (P len : Nat) (b : Nat → Nat) (nC nS nM : Nat) (F : eF) (G : Nat → Nat) (H T : eF) (M : eM) : eF := fun a j =>
  if a = 163 ∨ a = 4 ∨ a = 164 then F a j else if a = 166 then G j else if a = 169 ∨ a = 172 ∨ a = 173 ∨ a = 174 ∨ a = 5 then H a j else if a = 56 ∨ a = 177 then T a j else if a = 1 then b j
  else if a = 165 then (gi M (P + 5) j).toNatClampNeg else if a = 167 then (gi M (P + 8 + 2 * (j / 3)) (j % 3)).toNatClampNeg else if a = 168 then (gi M (P + 7 + 2 * j) 2).toNatClampNeg else if a = 170 then (gi M (P + 24 + 2 * (j / 4) + 1) (j % 4)).toNatClampNeg else if a = 171 then (gi M (P + 24 + 2 * j) 2).toNatClampNeg
  else if j = 0 then nC else if j = 1 then nS else if j = 2 then nM else len
theorem l_file {L xs P len b M} (hP : PP P) (hY : Y L xs M) (hL : PL P len b M) :
    ∃ v M1, FI (oR P) (e_sr M 9 0 P) M1 ∧ (∀ Q : Int32 → eM → Prop, Q v M1 → w_Reader_firstWrong 9 P M Q) ∧
    ((v = -1 ∧ ∃ D, KD D ∧ D 0 3 = len ∧ (∀ j, D 1 j = b j) ∧ KC P D M1 ∧ MP oM Wt (MJ L xs len b) (fun S => Y L xs S ∧ KM D S) (fun S Q => Q 1 S))
    ∨ (∃ w, w ≤ 1500 ∧ v = N w ∧ MP oM Wt (MJ L xs len b) (fun S => Y L xs S ∧ gi S 159 81 = N w) (fun S Q => Q 0 S))) := by
  have hg := hP.ge
  obtain ⟨v, M1, a1, a2, a3⟩ := l_parse hP hY hL
  refine ⟨v, M1, a1, a2, ?_⟩
  rcases a3 with ⟨hv, nC, nS, nM, F, G, H, T, h1, ⟨⟨hC, hS8, hM16⟩, ⟨n2, n7, n9⟩, hF, hG, hH⟩, hT, hM⟩ | h
  · obtain ⟨l1, l2, l3⟩ := hL
    refine Or.inl ⟨hv, mkD P len b nC nS nM F G H T M1, ?_, rfl, fun j => rfl, ?_, hM.im fun S ⟨⟨⟨z1, z2⟩, z3, z4, z5, z6, z7⟩, z8⟩ => ⟨z1, ?_⟩⟩
    · have i7 : ∀ s i, i < 3 → (3 * s + i) / 3 = s ∧ (3 * s + i) % 3 = i := by intro s i hi; omega
      have i0 : ∀ m i, i < 4 → (4 * m + i) / 4 = m ∧ (4 * m + i) % 4 = i := by intro s i hi; omega
      refine ⟨⟨hC, hS8, h1, hM16, l2, fun j hj => (l3 j hj).2⟩, fun c hc => ?_, fun s hs => ?_, fun m hm => ?_, fun c s hc hs => ?_⟩
      · obtain ⟨q1, q2, q3, q4, q5⟩ := hF c hc
        exact ⟨q4, fun f hf => (tyv_nat hC (q5 f hf)).2⟩
      · obtain ⟨q1, q2, q3, q4⟩ := hG s hs
        refine ⟨q1, (tyv_nat hC q3).2, fun i hi => ?_⟩
        have hi : i < G s := hi
        show vt nC 1 (gi M1 (P + 8 + 2 * ((3 * s + i) / 3)) ((3 * s + i) % 3)).toNatClampNeg
        rw [(i7 s i (by omega)).1, (i7 s i (by omega)).2]
        exact (tyv_nat hC (q4 i hi)).2
      · obtain ⟨q0, q1, q2, q3, q4⟩ := hH m hm
        refine ⟨q0, (tyv_nat hC q2).2, fun i hi => ?_⟩
        have hi : i < H 169 m := hi
        have q01 := q0.1
        show vt nC 1 (gi M1 (P + 24 + 2 * ((4 * m + i) / 4) + 1) ((4 * m + i) % 4)).toNatClampNeg
        rw [(i0 m i (by omega)).1, (i0 m i (by omega)).2]
        exact (tyv_nat hC (q3 i hi)).2
      · have hs : s < nS := hs
        have hc : c < nC := hc
        obtain ⟨t1, t2, t3, t4, t5⟩ := hT c s ⟨hs, Or.inl hc⟩
        refine ⟨t2, t3, t4, fun z => ?_⟩
        obtain ⟨u1, u2, u3, u4, u5⟩ := t5 z
        obtain ⟨q1, q2, q3, q4⟩ := hG s hs
        have hml : T 56 (c * 8 + s) - 1 < nM := by
          have : T 56 (c * 8 + s) ≠ 0 := z
          omega
        obtain ⟨y0, y1, y2, y3, y4⟩ := hH _ hml
        have y01 := y0.1
        have w0 := i0 (T 56 (c * 8 + s) - 1) 0 (by omega)
        rw [Nat.add_zero] at w0
        have ty0 := tyv_nat hC (y3 0 (by omega))
        refine ⟨u1, ?_, ?_, ?_, fun i hi => ?_⟩
        · show (gi M1 (P + 24 + 2 * (T 56 (c * 8 + s) - 1)) 2).toNatClampNeg = (gi M1 (P + 7 + 2 * s) 2).toNatClampNeg
          rw [u2]
        · show 16 ≤ (gi M1 (P + 24 + 2 * (4 * (T 56 (c * 8 + s) - 1) / 4) + 1) (4 * (T 56 (c * 8 + s) - 1) % 4)).toNatClampNeg
          rw [w0.1, w0.2]
          have := u3
          rw [ty0.1, show (16 : Int32) = N 16 from rfl, N_lt (by have := ty0.2; unfold vt at this; omega) (by omega)] at this
          omega
        · show (F 4 c).testBit ((gi M1 (P + 24 + 2 * (4 * (T 56 (c * 8 + s) - 1) / 4) + 1) (4 * (T 56 (c * 8 + s) - 1) % 4)).toNatClampNeg - 16) = true
          rw [w0.1, w0.2]
          exact u4
        · have hi : i < G s := hi
          have w1 := i0 (T 56 (c * 8 + s) - 1) (1 + i) (by omega)
          show (gi M1 (P + 24 + 2 * ((4 * (T 56 (c * 8 + s) - 1) + 1 + i) / 4) + 1) ((4 * (T 56 (c * 8 + s) - 1) + 1 + i) % 4)).toNatClampNeg = (gi M1 (P + 8 + 2 * ((3 * s + i) / 3)) ((3 * s + i) % 3)).toNatClampNeg
          rw [show 4 * (T 56 (c * 8 + s) - 1) + 1 + i = 4 * (T 56 (c * 8 + s) - 1) + (1 + i) by omega, w1.1, w1.2, (i7 s i (by omega)).1, (i7 s i (by omega)).2, show 1 + i = i + 1 by omega, u5 i hi]
    · have i7 : ∀ s i, i < 3 → (3 * s + i) / 3 = s ∧ (3 * s + i) % 3 = i := by intro s i hi; omega
      have i0 : ∀ m i, i < 4 → (4 * m + i) / 4 = m ∧ (4 * m + i) % 4 = i := by intro s i hi; omega
      refine ⟨⟨?_, n2, n7, n9⟩, fun j hj => ?_, fun c hc => ?_, fun s hs => ?_, fun m hm => ?_, fun c s hc hs => (hT c s ⟨hs, Or.inl hc⟩).1⟩
      · rw [a1.gi (by unfold oR; omega)]; exact l1
      · rw [a1.gi (by unfold oR; omega)]; exact (l3 j hj).1
      · obtain ⟨q1, q2, q3, q4, q5⟩ := hF c hc
        exact ⟨q2, q3, fun f hf => (tyv_nat hC (q5 f hf)).1⟩
      · obtain ⟨q1, q2, q3, q4⟩ := hG s hs
        refine ⟨q2, (tyv_nat hC q3).1, fun i hi => ?_⟩
        have hi : i < G s := hi
        show gi M1 (P + 8 + 2 * s) i = N (gi M1 (P + 8 + 2 * ((3 * s + i) / 3)) ((3 * s + i) % 3)).toNatClampNeg
        rw [(i7 s i (by omega)).1, (i7 s i (by omega)).2]
        exact (tyv_nat hC (q4 i hi)).1
      · obtain ⟨q0, q1, q2, q3, q4⟩ := hH m hm
        refine ⟨q1, (tyv_nat hC q2).1, fun i hi => ?_, q4⟩
        have hi : i < H 169 m := hi
        have q01 := q0.1
        show gi M1 (P + 25 + 2 * m) i = N (gi M1 (P + 24 + 2 * ((4 * m + i) / 4) + 1) ((4 * m + i) % 4)).toNatClampNeg
        rw [(i0 m i (by omega)).1, (i0 m i (by omega)).2, show P + 25 + 2 * m = P + 24 + 2 * m + 1 by omega]
        exact (tyv_nat hC (q3 i hi)).1
    · have i7 : ∀ s i, i < 3 → (3 * s + i) / 3 = s ∧ (3 * s + i) % 3 = i := by intro s i hi; omega
      have i0 : ∀ m i, i < 4 → (4 * m + i) / 4 = m ∧ (4 * m + i) % 4 = i := by intro s i hi; omega
      refine ⟨⟨z2, z3, z4⟩, fun c hc => ?_, fun s hs => ?_, fun m hm => ?_, fun c s hc hs => z8 c s ⟨hs, Or.inl hc⟩⟩
      · obtain ⟨q1, q2, q3, q4, q5⟩ := hF c hc
        obtain ⟨e1, e2, e3⟩ := z5 c hc
        exact ⟨e1, e2, fun f hf => by rw [e3 f hf]; exact (tyv_nat hC (q5 f hf)).1⟩
      · obtain ⟨q1, q2, q3, q4⟩ := hG s hs
        obtain ⟨e1, e2, e3⟩ := z6 s hs
        refine ⟨e1, by rw [e2]; exact (tyv_nat hC q3).1, fun i hi => ?_⟩
        have hi : i < G s := hi
        show gi S 167 (3 * s + i) = N (gi M1 (P + 8 + 2 * ((3 * s + i) / 3)) ((3 * s + i) % 3)).toNatClampNeg
        rw [(i7 s i (by omega)).1, (i7 s i (by omega)).2, e3 i hi]
        exact (tyv_nat hC (q4 i hi)).1
      · obtain ⟨q0, q1, q2, q3, q4⟩ := hH m hm
        obtain ⟨e1, e2, e3, e4, e5, e6, e7⟩ := z7 m hm
        refine ⟨e1, by rw [e2]; exact (tyv_nat hC q2).1, fun i hi => ?_, e4, e5, e6, e7⟩
        have hi : i < H 169 m := hi
        have q01 := q0.1
        show gi S 170 (4 * m + i) = N (gi M1 (P + 24 + 2 * ((4 * m + i) / 4) + 1) ((4 * m + i) % 4)).toNatClampNeg
        rw [(i0 m i (by omega)).1, (i0 m i (by omega)).2, e3 i hi]
        exact (tyv_nat hC (q3 i hi)).1
  · exact Or.inr h
