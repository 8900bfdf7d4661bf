theorem l_shape {X : Type} {L xs P Sh len b nC most M p cp ct cr st k} {W0 : eM → X → Prop} {J C : eM → Prop} {Ws Wx : eM → X → Prop} {Wm : Nat → Nat → eM → X → Prop} (hP : PP P) (hS : SH P Sh) (hmo : most ≤ 4) (hst : most ≤ st) (hC : nC ≤ 8)
    (hcs : ct ≠ 159 ∧ ct ≠ 161 ∧ 163 ≤ ct ∧ ct ≤ 175 ∧ 163 ≤ cp ∧ cp ≤ 175 ∧ 163 ≤ cr ∧ cr ≤ 175) (hcc : cp ≠ ct ∧ cp ≠ 159 ∧ cp ≠ cr ∧ ct ≠ cr)
    (hWm : ∀ np n i S x, np ≤ most → Y L xs S → gi S cp k = N np → i < np → w_Mod_type 159 0 S (fun v M8 => e_ar M8 ct 20 (N (st * k + i)) ∧ ∀ M10 : eM, M10 = e_si M8 ct (st * k + i) v → Wm n (i + 1) M10 x) → Wm (n + 1) i S x)
    (hWs : ∀ S x, Y L xs S → w_Mod_next 159 (N 0) (N most) S (fun v M1 => e_ar M1 cp 20 (N k) ∧ ∀ M3 : eM, M3 = e_si M1 cp k v → ∃ n, Wm n 0 M3 x) → Ws S x)
    (hWx : ∀ np S x, np ≤ most → Y L xs S → gi S cp k = N np → w_Mod_type 159 1 S (fun v M5 => e_ar M5 cr 20 (N k) ∧ ∀ M7 : eM, M7 = e_si M5 cr k v → Wx M7 x) → Wm 1 np S x)
    (har : ∀ S, Y L xs S → ∀ i, i < st → e_ar S ct 20 (N (st * k + i))) (hap : ∀ S, Y L xs S → e_ar S cp 20 (N k)) (harr : ∀ S, Y L xs S → e_ar S cr 20 (N k))
    (hCs : ∀ S S', C S → FI (omS cp ct cr k st) S S' → C S') (hCn : ∀ S, C S → Y L xs S ∧ gi S 159 11 = N nC) (hY : Y L xs M) (hn : gi M P 2 = N nC)
    (hR : RO P p len b M) (hM : MP oM W0 J (fun S => MO p len b S ∧ C S) Ws) :
    ∃ M1, FI (oS Sh) M M1 ∧ (∀ Q : eM → Prop, Q M1 → w_Reader_readShape 9 Sh (N most) M Q) ∧
    ((∃ p' np, p ≤ p' ∧ np ≤ most ∧ gi M1 Sh 1 = N np ∧ tyv nC 0 (gi M1 Sh 2) ∧ (∀ i, i < np → tyv nC 1 (gi M1 (Sh + 1) i)) ∧ RO P p' len b M1 ∧ MP oM W0 J (fun S => MO p' len b S ∧ C S ∧ gi S cp k = N np ∧ gi S cr k = gi M1 Sh 2 ∧ ∀ i, i < np → gi S ct (st * k + i) = gi M1 (Sh + 1) i) Wx)
    ∨ (∃ w, RW P w M1 ∧ MP oM W0 J (fun S => C S ∧ MB w S) Wx)) := by
  have hg := hP.ge
  have hs := hS.ge
  have fom : ∀ {S S'}, FI (omS cp ct cr k st) S S' → FI oM S S' := fun h => h.up (fun a j z => by unfold omS at z; unfold oM; omega)
  by_cases h1 : p < len ∧ b p ≤ most
  · generalize hnp : b p = np at h1
    have hY1 : Y L xs (e_si (e_si M 9 1 (N (p + 1))) Sh 1 (N np)) := (hY.si (a := 9) (by omega)).si (by omega)
    obtain ⟨M1, a1, a2, a3⟩ := l_types (W0 := W0) (J := J) (C := C) (Wm := Wm) (np := np) (cr := cr) (M0 := e_si (e_si M 9 1 (N (p + 1))) Sh 1 (N np)) (len := len) (b := b) hP hS (by omega) (by omega) hC ⟨hcs.1, hcs.2.1, hcs.2.2.1, hcs.2.2.2.1⟩ (fun n i S x => hWm np n i S x h1.2) har ⟨hcc.1, hcc.2.1, hcc.2.2.1⟩ hCs hCn hY1 (by rw [gd (by omega), gd (by omega)]; exact hn) (by rw [gs])
      ⟨(hR.si1 hP h1.1).si (by omega) (by omega) (by omega), hM.st fun S ⟨hO, hc⟩ => by
        obtain ⟨hS', hSn⟩ := hCn S hc
        have fS : FI (omS cp ct cr k st) S (e_si (e_si S 159 81 (N (p + 1))) cp k (N np)) := FI.si (FI.si (FI.rf S) (by unfold omS; omega)) (by unfold omS; omega)
        refine ⟨_, fom fS, ⟨(hO.si1 h1.1).fi (o := fun a _ => a = cp) (FI.si (FI.rf _) rfl) (by omega) (by omega) (by omega) (by omega), hCs _ _ hc fS, by rw [gs]⟩, fun x hx => hWs S x hS' (m_next hS' hO (by omega) (by omega) (fun _ _ _ => ⟨hap S hS', fun M3 e => ?_⟩) (fun z => absurd ⟨h1.1, by omega, by omega⟩ z))⟩
        subst e; rw [hnp]; exact hx⟩
    have hYa : Y L xs M1 := a1.Y (fun a j ha => by omega) hY1
    have v1 : gi M1 Sh 1 = N np := by rw [a1.gi (by omega), gs]
    have vn : gi M1 P 2 = N nC := by rw [a1.gi (by omega), gd (by omega), gd (by omega)]; exact hn
    have fa : FI (oS Sh) M M1 := FI.t2 (FI.si (FI.si (FI.rf M) (by unfold oS; omega)) (by unfold oS; omega)) (a1.up (fun a j z => by unfold oS; omega))
    have start : ∀ Q : eM → Prop, (∃ n, w_Reader_readShape_12 n 9 Sh (N np) M1 Q) → w_Reader_readShape 9 Sh (N most) M Q := by
      intro Q h
      unfold w_Reader_readShape
      refine ⟨yo9 hY, r_take (lo := 0) hY hP hR (by omega) (by omega) (fun _ _ _ _ => ⟨hS.o hP (hY.si (a := 9) (by omega)), fun M3 e => ?_⟩) (fun z => absurd ⟨h1.1, by omega, by omega⟩ z)⟩
      subst e; rw [hnp]; exact a2 Q h
    rcases a3 with ⟨p', b0, b1, b2, b3⟩ | ⟨w, b1, b2⟩
    · by_cases h2 : p' < len ∧ vt nC 0 (b p')
      · refine ⟨e_si (e_si M1 9 1 (N (p' + 1))) Sh 2 (N (b p')), FI.si (FI.si fa (by unfold oS; omega)) (by unfold oS; omega), fun Q hQ => start Q ⟨1, ?_⟩, Or.inl ⟨p' + 1, np, by omega, h1.2, ?_, ?_, fun i hi => ?_, (b1.si1 hP h2.1).si (by omega) (by omega) (by omega), b3.st fun S ⟨hO, hc, hcp, he⟩ => ?_⟩⟩
        · unfold w_Reader_readShape_12
          rw [v1]
          refine ⟨hS.o hP hYa, fun _ => ⟨yo9 hYa, r_typeO (lo := 0) hYa hP b1 (Or.inl rfl) vn hC h2 ⟨hS.o hP (hYa.si (a := 9) (by omega)), fun M7 e => ?_⟩⟩, fun c => absurd (Int32.le_refl _) c⟩
          subst e; exact hQ
        · rw [gd (by omega), gd (by omega)]; exact v1
        · rw [gs]; exact ⟨_, rfl, h2.2⟩
        · rw [gd (by omega), gd (by omega)]; exact b2 i hi
        · obtain ⟨hS', hSn⟩ := hCn S hc
          have fS : FI (omS cp ct cr k st) S (e_si (e_si S 159 81 (N (p' + 1))) cr k (N (b p'))) := FI.si (FI.si (FI.rf S) (by unfold omS; omega)) (by unfold omS; omega)
          refine ⟨_, fom fS, ⟨(hO.si1 h2.1).fi (o := fun a _ => a = cr) (FI.si (FI.rf _) rfl) (by omega) (by omega) (by omega) (by omega), hCs _ _ hc fS, by rw [gd (by omega), gd (by omega)]; exact hcp, by rw [gs, gs], fun i hi => by rw [gd (by omega), gd (by omega), gd (by omega), gd (by omega)]; exact he i hi⟩, fun x hx => ⟨1, hWx np S x h1.2 hS' hcp (m_type hS' hO (Or.inl ⟨rfl, rfl⟩) hSn hC (fun _ _ => ⟨harr S hS', fun M7 e => ?_⟩) (fun z => absurd h2 z))⟩⟩
          subst e; exact hx
      · obtain ⟨v, M', x1, x2, x3⟩ := r_typeX hYa hP b1 (Or.inl rfl) vn hC h2
        have hYM : Y L xs M' := x1.Y (fun a _ ha => by omega) hYa
        refine ⟨e_si M' Sh 2 v, FI.si (FI.t2 fa (x1.up (fun a j e => Or.inl e))) (by unfold oS; omega), fun Q hQ => start Q ⟨1, ?_⟩, Or.inr ⟨p', x2.si (by omega), b3.st fun S ⟨hO, hc, hcp, he⟩ => ?_⟩⟩
        · unfold w_Reader_readShape_12
          rw [v1]
          refine ⟨hS.o hP hYa, fun _ => ⟨yo9 hYa, x3 _ ⟨hS.o hP hYM, fun M7 e => ?_⟩⟩, fun c => absurd (Int32.le_refl _) c⟩
          subst e; exact hQ
        · obtain ⟨hS', hSn⟩ := hCn S hc
          have fS : FI (omS cp ct cr k st) S (e_si (e_si S 159 82 1) cr k 0) := FI.si (FI.si (FI.rf S) (by unfold omS; omega)) (by unfold omS; omega)
          refine ⟨_, fom fS, ⟨hCs _ _ hc fS, hO.wr.fi (o := fun a _ => a = cr) (FI.si (FI.rf _) rfl) (by omega) (by omega)⟩, fun x hx => ⟨1, hWx np S x h1.2 hS' hcp (m_type hS' hO (Or.inl ⟨rfl, rfl⟩) hSn hC (fun z1 z2 => absurd ⟨z1, z2⟩ h2) (fun _ => ⟨harr S hS', fun M7 e => ?_⟩))⟩⟩
          subst e; exact hx
    · refine ⟨e_si M1 Sh 2 (N 0), FI.si fa (by unfold oS; omega), fun Q hQ => start Q ⟨1, ?_⟩, Or.inr ⟨w, b1.si (by omega), b2.st fun S ⟨hc, hcp, hB⟩ => ?_⟩⟩
      · unfold w_Reader_readShape_12
        rw [v1]
        refine ⟨hS.o hP hYa, fun _ => ⟨yo9 hYa, r_typeW (lo := 0) hYa hP b1 (Or.inl rfl) ⟨hS.o hP hYa, fun M7 e => ?_⟩⟩, fun c => absurd (Int32.le_refl _) c⟩
        subst e; exact hQ
      · obtain ⟨hS', hSn⟩ := hCn S hc
        have fS : FI (omS cp ct cr k st) S (e_si S cr k 0) := FI.si (FI.rf S) (by unfold omS; omega)
        refine ⟨_, fom fS, ⟨hCs _ _ hc fS, hB.fi (o := fun a _ => a = cr) (FI.si (FI.rf _) rfl) (by omega) (by omega)⟩, fun x hx => ⟨1, hWx np S x h1.2 hS' hcp (m_typeB hS' hB ⟨harr S hS', fun M7 e => ?_⟩)⟩⟩
        subst e; exact hx
  · refine ⟨e_si (e_si (e_si M 9 2 (N p)) Sh 1 (N 0)) Sh 2 (N 0), FI.si (FI.si (FI.si (FI.rf M) (by unfold oS; omega)) (by unfold oS; omega)) (by unfold oS; omega), fun Q hQ => ?_, Or.inr ⟨p, (hR.wr.si (by omega)).si (by omega), hM.st fun S ⟨hO, hc⟩ => ?_⟩⟩
    · have h2 := hR.wr
      have hY1 : Y L xs (e_si M 9 2 (N p)) := hY.si (by omega)
      have h3 : RW P p (e_si (e_si M 9 2 (N p)) Sh 1 (N 0)) := h2.si (by omega)
      have hY2 : Y L xs (e_si (e_si M 9 2 (N p)) Sh 1 (N 0)) := hY1.si (by omega)
      unfold w_Reader_readShape
      refine ⟨yo9 hY, r_take (lo := 0) hY hP hR (by omega) (by omega) (fun y1 y2 y3 _ => absurd ⟨y1, y3⟩ h1) (fun _ => ⟨hS.o hP hY1, fun M3 e => ?_⟩)⟩
      subst e
      refine ⟨1, ?_⟩
      unfold w_Reader_readShape_12
      refine ⟨hS.o hP hY2, fun _ => ⟨yo9 hY2, r_typeW (lo := 0) hY2 hP h3 (Or.inl rfl) ⟨hS.o hP hY2, fun M7 e => ?_⟩⟩, fun c => absurd ?_ c⟩
      · subst e; exact hQ
      · show gi (e_si (e_si M 9 2 (N p)) Sh 1 (N 0)) Sh 1 ≤ N 0
        rw [gs]; exact Int32.le_refl _
    · obtain ⟨hS', hSn⟩ := hCn S hc
      have f1 : FI (omS cp ct cr k st) S (e_si (e_si S 159 82 1) cp k 0) := FI.si (FI.si (FI.rf S) (by unfold omS; omega)) (by unfold omS; omega)
      have f2 : FI (omS cp ct cr k st) S (e_si (e_si (e_si S 159 82 1) cp k 0) cr k 0) := FI.si f1 (by unfold omS; omega)
      have hB1 : MB p (e_si (e_si S 159 82 1) cp k 0) := hO.wr.fi (o := fun a _ => a = cp) (FI.si (FI.rf _) rfl) (by omega) (by omega)
      have hYc := (hCn _ (hCs _ _ hc f1)).1
      refine ⟨_, fom f2, ⟨hCs _ _ hc f2, hB1.fi (o := fun a _ => a = cr) (FI.si (FI.rf _) rfl) (by omega) (by omega)⟩, fun x hx => hWs S x hS' (m_next hS' hO (by omega) (by omega) (fun y1 y2 y3 => absurd ⟨y1, y3⟩ h1) (fun _ => ⟨hap S hS', fun M3 e => ?_⟩))⟩
      subst e
      refine ⟨1, hWx 0 _ x (by omega) hYc (by rw [gs]; rfl) (m_typeB hYc hB1 ⟨harr _ hYc, fun M7 e => ?_⟩)⟩
      subst e; exact hx
