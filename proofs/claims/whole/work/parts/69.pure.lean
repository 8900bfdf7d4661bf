/-! ===== pure: the model looks whether instructions are good ===== -/
section DEM
variable {L : Nat} {xs : Nat → Int32} {D : eF} {S : eM} {m p : Nat} {Q : Int32 → eM → Prop}
theorem m_isPlace {t : Nat} (hY : Y L xs S) (hD : KD D) (hK : KM D S) (hB : BM1 D m S) (hm : m < D 0 2) (ht : t < 256) (h1 : bg D m t → Q 1 S) (h0 : ¬ bg D m t → Q 0 S) : w_Mod_isPlace 159 (N m) (N t) S Q := by
  have hd := hD.1
  have h2 := (hD.2.2.2.1 m hm).1
  have hz := (hK.2.2.2.1 m hm).2.2.2.2.2.1
  unfold w_Mod_isPlace w_Mod_isPlace_28 w_Mod_isPlace_29
  simp (disch := omega) only [N_lit, yo159 hY, true_and, yr159_25 hY, yi174 hY, N_in, N_nat, hz, N_le, yr159_27 hY, ya176 hY, N_mul, N_add]
  refine ⟨by omega, fun c => ⟨by simp, h0 (fun hb => by have := bg_lt hb; omega)⟩, fun c => ⟨by omega, fun e => ⟨by simp, h0 (fun hb => ?_)⟩, fun e => ⟨by simp, h1 ?_⟩⟩⟩
  · rw [(hB t (by omega)).1 hb] at e; exact absurd e (by decide)
  · by_cases hb : bg D m t
    · exact hb
    · exact absurd ((hB t (by omega)).2 hb) e
theorem m_good (hY : Y L xs S) (hD : KD D) (hK : KM D S) (hB : BM1 D m S) (hm : m < D 0 2) (hp : p < D 174 m) (h1 : good D m p → Q 1 S) (h0 : ¬ good D m p → Q 0 S) : w_Mod_isGood 159 (N m) (N p) S Q := by
  have hd := hD.1
  have h2 := (hD.2.2.2.1 m hm).1
  obtain ⟨-, -, -, k4, -, k6, -⟩ := hK.2.2.2.1 m hm
  have hby : ∀ q, q < D 174 m → cdD D m q < 256 := fun q hq => hd.2.2.2.2.2 _ (by omega)
  unfold w_Mod_isGood
  refine ⟨yo159 hY, m_longOf hY hD hK hm hp ?_⟩
  by_cases e0 : il D m p = 0
  · rw [if_pos e0]
    exact ⟨fun z => absurd rfl z, fun _ => ⟨by simp, h0 (fun z => z.1 e0)⟩⟩
  · rw [if_neg e0]
    have i3 := (il_le e0).2
    have hopb := hby p hp
    rw [N_neg (by omega)]
    refine ⟨fun _ => ⟨yo159 hY, m_byteAt hY hD hK hm hp ?_⟩, fun z => z.elim⟩
    -- the rest, once the second byte (or 0) is there
    have h83 : ∀ a, (il D m p > 1 → a = cdD D m (p + 1)) → a < 256 → (p + il D m p = D 174 m → cdD D m p = 21 ∨ cdD D m p = 49 ∨ cdD D m p = 50 ∨ cdD D m p = 53) → w_Mod_isGood_83 159 (N m) (N p) (N (cdD D m p)) (N a) S Q := by
      intro a ha hal hend
      generalize hop : cdD D m p = op at *
      have hyes : named D m p → Q 1 S := fun z => h1 ⟨e0, by rw [hop]; exact hend, z⟩
      have hno : ¬ named D m p → Q 0 S := fun z => h0 (fun y => z y.2.2)
      by_cases e53 : op = 53
      · obtain ⟨j1, j2⟩ := il_53 e0 (by rw [hop]; exact e53)
        have haa := ha (by omega)
        subst haa
        have hx : named D m p ↔ (1 ≤ cdD D m (p + 1) ∧ cdD D m (p + 1) ≤ 8 ∧ ∀ i, i ≤ cdD D m (p + 1) → bg D m (cdD D m (p + 2 + i))) := by
          unfold named; rw [hop]
          exact ⟨fun h => h.1 e53, fun h => ⟨fun _ => h, fun c => by omega, fun c => by omega, fun c => by omega, fun c => by omega, fun c => by omega, fun c => by omega⟩⟩
        rw [hx] at hyes hno
        generalize hn : cdD D m (p + 1) = n at *
        unfold w_Mod_isGood_83 w_Mod_isGood_292
        simp (disch := omega) only [N_lit, N_eq, N_lt, N_le]
        refine ⟨fun e => by omega, fun _ => ⟨fun e => by omega, fun _ => ⟨fun e => by omega, fun _ => ⟨fun e => by omega, fun _ => ⟨fun e => by omega, fun _ => ⟨fun e => by omega, fun _ => ⟨fun e => by omega, fun _ => ⟨fun e => by omega, fun _ => ⟨fun e => by omega, fun _ => ⟨fun e => by omega, fun _ => ⟨fun _ => ⟨fun c => ⟨by simp, hno (fun z => by omega)⟩, fun c => ⟨fun c2 => ?_, fun c2 => ⟨by simp, hno (fun z => by omega)⟩⟩⟩, fun e => absurd e53 e⟩⟩⟩⟩⟩⟩⟩⟩⟩⟩⟩
        refine allLp (p := fun i => bg D m (cdD D m (p + 2 + i))) (W := fun k i => w_Mod_isGood_297 k 159 (N m) (N p) (N n) (N i) S Q) (hi := n + 1) (fun i hin k ha hb => ?_) (A := Q 1 S) (fun hA => ?_) (fun z => hyes ⟨by omega, c2, fun i hi => z i (by omega)⟩) (fun z => hno (fun y => z (fun i hi => y.2.2 i (by omega))))
        · unfold w_Mod_isGood_297
          simp (disch := omega) only [N_lit, N_lt, yo159 hY, true_and, N_add]
          refine ⟨fun c => absurd c (by omega), fun _ => m_byteAt hY hD hK hm (by omega) ?_⟩
          exact ⟨yo159 hY, m_isPlace hY hD hK hB hm (hby _ (by omega)) (fun z => ⟨fun _ => ha z, fun y => absurd y (by decide)⟩) (fun z => ⟨fun y => absurd rfl y, fun _ => ⟨by simp, hb z⟩⟩)⟩
        · unfold w_Mod_isGood_297
          simp (disch := omega) only [N_lt]
          exact ⟨fun _ => ⟨by simp, hA⟩, fun c => absurd (by omega) c⟩
      · obtain ⟨j1, j2⟩ := il_sz e0 (by rw [hop]; exact e53)
        rw [hop] at j1 j2
        have n184 : op = 3 ∨ op = 4 ∨ op = 20 → w_Mod_isGood_184 159 (N m) (N a) S Q := by
          intro e
          have haa := ha (by
            rcases e with e | e | e
            · have := sz2 op j2 (by omega); omega
            · have := sz2 op j2 (by omega); omega
            · have := sz3 op j2 (by omega); omega)
          have hx : named D m p ↔ a < D 172 m := by
            rw [haa]
            unfold named; rw [hop]
            exact ⟨fun h => h.2.2.1 e, fun h => ⟨fun c => by omega, fun c => by omega, fun _ => h, fun c => by omega, fun c => by omega, fun c => by omega, fun c => by omega⟩⟩
          unfold w_Mod_isGood_184 w_Mod_isGood_200
          simp (disch := omega) only [yo159 hY, true_and, yr159_23 hY, yi172 hY, N_in, N_nat, k4, N_le]
          exact ⟨by omega, fun c => ⟨by simp, hno (fun z => by have := hx.mp z; omega)⟩, fun c => ⟨by simp, hyes (hx.mpr (by omega))⟩⟩
        have n201 : op = 38 ∨ op = 45 ∨ op = 46 → w_Mod_isGood_201 159 (N a) S Q := by
          intro e
          have haa := ha (by have := sz2 op j2 (by omega); omega)
          have hx : named D m p ↔ a < D 0 0 := by
            rw [haa]
            unfold named; rw [hop]
            exact ⟨fun h => h.2.2.2.1 e, fun h => ⟨fun c => by omega, fun c => by omega, fun c => by omega, fun _ => h, fun c => by omega, fun c => by omega, fun c => by omega⟩⟩
          unfold w_Mod_isGood_201 w_Mod_isGood_215
          simp (disch := omega) only [yo159 hY, true_and, hK.1.1, N_le]
          exact ⟨fun c => ⟨by simp, hno (fun z => by have := hx.mp z; omega)⟩, fun c => ⟨by simp, hyes (hx.mpr (by omega))⟩⟩
        have n216 : op = 39 ∨ op = 40 → w_Mod_isGood_216 159 (N m) (N p) (N a) S Q := by
          intro e
          have hs := sz3 op j2 (by omega)
          have haa := ha (by omega)
          have hx : named D m p ↔ a < D 0 0 ∧ cdD D m (p + 2) < D 164 a := by
            rw [haa]
            unfold named; rw [hop]
            exact ⟨fun h => h.2.2.2.2.1 e, fun h => ⟨fun c => by omega, fun c => by omega, fun c => by omega, fun c => by omega, fun _ => h, fun c => by omega, fun c => by omega⟩⟩
          have hb2 := hby (p + 2) (by omega)
          unfold w_Mod_isGood_216 w_Mod_isGood_247 w_Mod_isGood_248
          simp (disch := omega) only [N_lit, yo159 hY, true_and, hK.1.1, N_le, N_add]
          refine ⟨fun c => ⟨by simp, hno (fun z => by have := (hx.mp z).1; omega)⟩, fun c => m_byteAt hY hD hK hm (by omega) ?_⟩
          have hc : a < D 0 0 := by omega
          have f8 := (hD.2.1 _ hc).1.2.2.2
          simp (disch := omega) only [yo159 hY, true_and, yr159_13 hY, yi164 hY, N_in, N_nat, (hK.2.1 _ hc).2.1, N_le]
          exact ⟨by omega, fun c => ⟨by simp, hno (fun z => by have := (hx.mp z).2; omega)⟩, fun c => ⟨by simp, hyes (hx.mpr ⟨hc, by omega⟩)⟩⟩
        unfold w_Mod_isGood_83 w_Mod_isGood_263 w_Mod_isGood_278 w_Mod_isGood_357 w_Mod_isGood_362
        simp (disch := omega) only [N_lit, N_eq, N_lt, yo159 hY, true_and, hK.1.2.1, hK.1.2.2, N_le]
        refine ⟨fun e => n184 (by omega), fun e3 => ⟨fun e => n184 (by omega), fun e4 => ⟨fun e => n184 (by omega), fun e20 => ⟨fun e => n201 (by omega), fun e38 => ⟨fun e => n216 (by omega), fun e39 => ⟨fun e => n216 (by omega), fun e40 => ⟨fun e => n201 (by omega), fun e45 => ⟨fun e => n201 (by omega), fun e46 => ⟨fun e => ?_, fun e47 => ⟨fun e => ?_, fun e48 => ⟨fun e => absurd e e53, fun _ => ?_⟩⟩⟩⟩⟩⟩⟩⟩⟩⟩⟩
        · have haa := ha (by have := sz2 op j2 (by omega); omega)
          have hx : named D m p ↔ a < D 0 2 := by
            rw [haa]
            unfold named; rw [hop]
            exact ⟨fun h => h.2.2.2.2.2.1 e, fun h => ⟨fun c => by omega, fun c => by omega, fun c => by omega, fun c => by omega, fun c => by omega, fun _ => h, fun c => by omega⟩⟩
          exact ⟨fun c => ⟨by simp, hno (fun z => by have := hx.mp z; omega)⟩, fun c => ⟨by simp, hyes (hx.mpr (by omega))⟩⟩
        · have haa := ha (by have := sz2 op j2 (by omega); omega)
          have hx : named D m p ↔ a < D 0 1 := by
            rw [haa]
            unfold named; rw [hop]
            exact ⟨fun h => h.2.2.2.2.2.2 e, fun h => ⟨fun c => by omega, fun c => by omega, fun c => by omega, fun c => by omega, fun c => by omega, fun c => by omega, fun _ => h⟩⟩
          exact ⟨fun c => ⟨by simp, hno (fun z => by have := hx.mp z; omega)⟩, fun c => ⟨by simp, hyes (hx.mpr (by omega))⟩⟩
        · have triv : ¬ (21 ≤ op ∧ op ≤ 37) → named D m p := by
            intro z
            unfold named; rw [hop]
            exact ⟨fun c => by omega, fun c => by omega, fun c => by omega, fun c => by omega, fun c => by omega, fun c => by omega, fun c => by omega⟩
          refine ⟨fun c => ⟨by simp, hyes (triv (by omega))⟩, fun c => ⟨fun c2 => ⟨by simp, hyes (triv (by omega))⟩, fun c2 => ?_⟩⟩
          have haa := ha (by have := sz2 op j2 (by omega); omega)
          have hx : named D m p ↔ bg D m a := by
            rw [haa]
            unfold named; rw [hop]
            exact ⟨fun h => h.2.1 (by omega), fun h => ⟨fun c => by omega, fun _ => h, fun c => by omega, fun c => by omega, fun c => by omega, fun c => by omega, fun c => by omega⟩⟩
          exact m_isPlace hY hD hK hB hm hal (fun z => ⟨fun y => absurd y (by decide), fun _ => ⟨by simp, hyes (hx.mpr z)⟩⟩) (fun z => ⟨fun _ => ⟨by simp, hno (fun y => z (hx.mp y))⟩, fun y => absurd rfl y⟩)
    have h39 : ∀ a, (il D m p > 1 → a = cdD D m (p + 1)) → a < 256 → w_Mod_isGood_39 159 (N m) (N p) (N (il D m p)) (N (cdD D m p)) (N a) S Q := by
      intro a ha hal
      unfold w_Mod_isGood_39
      simp (disch := omega) only [N_lit, N_eq, yo159 hY, true_and, yr159_25 hY, yi174 hY, N_in, N_nat, k6, N_add]
      refine ⟨by omega, fun c => h83 a ha hal (fun z => absurd z c), fun c => ⟨fun e => h83 a ha hal (fun _ => by omega), fun e1 => ⟨fun e => h83 a ha hal (fun _ => by omega), fun e2 => ⟨fun e => h83 a ha hal (fun _ => by omega), fun e3 => ⟨fun e => h83 a ha hal (fun _ => by omega), fun e4 => ⟨by simp, h0 (fun z => by have := z.2.1 c; omega)⟩⟩⟩⟩⟩⟩
    simp (disch := omega) only [N_lit, N_le]
    refine ⟨fun c => h39 0 (fun z => by omega) (by omega), fun c => ⟨yo159 hY, ?_⟩⟩
    rw [N_add]
    exact m_byteAt hY hD hK hm (by omega) (h39 _ (fun _ => rfl) (hby _ (by omega)))
end DEM
