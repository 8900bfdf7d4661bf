theorem e_nr_W2 {p : Program} {l : Launch} {e : Env} {R : Room} {s : State} {m : MethodId} {args : Array Value} {below : List Frame} {meth : Method} {c : Code} {H : Heap} {locs : List Loc} {cells slots mc ms : Nat} {w : eW} {Q Q2 : eQ} {A : Nat → Prop} {g : JFrame} (hQ : ∀ v M, Q v M → Q2 v M) (h : W p l e R s m args below meth c H locs cells slots (MQ below (e_Qc w (e_nr Q)) args s mc ms A) g) : W p l e R s m args below meth c H locs cells slots (MQ below (e_Qc w (e_nr Q2)) args s mc ms A) g := by
  intro T hT X
  obtain ⟨t, a1, o, b1, b2, ⟨⟨v, M', c1, c2, c3⟩, c4⟩, b4⟩ := h T hT X
  exact ⟨t, a1, o, b1, b2, ⟨⟨v, M', c1, ⟨hQ _ _ c2.1, c2.2⟩, c3⟩, c4⟩, b4⟩
theorem e_F.post {am : eAm} {i d kc ks pc : Nat} {lv : eL} {st : List Value} {M : eM} {Q Q2 : eQ} (h : e_F am i d kc ks pc lv st M Q) (hQ : ∀ v M, Q v M → Q2 v M) : e_F am i d kc ks pc lv st M Q2 := by
  intro A
  refine h ?_
  obtain ⟨p, l, e, R, s, m, args, below, meth, c, Qf, w⟩ := am
  obtain ⟨h1, h2, h3, h4, h5, h6, h7, hmq⟩ := A
  exact ⟨h1, h2, h3, h4, h5, h6, h7, fun H locs cells slots g z => hmq H locs cells slots g (e_nr_W2 hQ z)⟩
theorem f_helpI {am : eAm} {d d' mc ms kc ks kc' ks' pc pc' x i b na nj : Nat} {z : Int} {lv : eL} {st r av : List Value} {M : eM} {Q : eQ} {P : Int32 → eM → Prop} (hL : e_OkL i) (hd : d = d' + 1) (hq : e_dec 241 pc = some (.invokestatic x, 3, i, b, z)) (hi : 236 ≤ i ∧ i ≤ 240) (hna : i - 234 - (if 238 ≤ i then 1 else 0) = na) (hle : na ≤ st.length) (hav : (st.take na).reverse = av) (hj : (e_m i).2.2.1 = nj) (hlen : (lg_sl av).length ≤ nj) (hdr : st.drop na = r) (h8 : (r.map fun v => v.category).sum ≤ 8) (g1 : mc ≤ kc) (g2 : ms ≤ ks) (hp : pc + 3 = pc') (hk1 : kc - mc = kc') (hk2 : ks - ms = ks')
    (hF : ∀ am', e_tab am' i → e_F am' i d' mc ms 0 (lv_args 0 av) [] M (e_QI P)) (k : ∀ y M', P y M' → e_F am 241 d kc' ks' pc' lv (.int y :: r) M' Q) : e_F am 241 d kc ks pc lv st M Q := by
  subst hav; subst hj; subst hdr; subst hp; subst hk1; subst hk2
  refine f_help hL hd hq hi hna hle hlen h8 g1 g2 fun am' ht => (hF am' ht).post ?_
  rintro v M' ⟨y, rfl, hy⟩
  exact k y M' hy
theorem e_okL236_0 : e_okD "TierMillLaw" (e_m 236).1.name (e_m 236).2.1 ((((e_m 236).2.2.2.2.drop 0).take 60).filter e_nh) [[], [], [], [1155, 1156, 1157], [], [], [], [], [], [], [], []] = true := by decide +kernel
theorem e_okL236 : e_OkL 236 := by
  intro pc q hm hn
  have hm : (pc, q) ∈ (e_m 236).2.2.2.2.drop 0 := hm
  rcases e_OkL_c e_okL236_0 hm hn with h | hm
  · exact h
  have hl : (e_m 236).2.2.2.2.length ≤ 60 := by decide +kernel
  rw [List.drop_eq_nil_of_le (by omega)] at hm
  cases hm
theorem e_okL237_0 : e_okD "TierMillLaw" (e_m 237).1.name (e_m 237).2.1 ((((e_m 237).2.2.2.2.drop 0).take 60).filter e_nh) [[], [], [], [], [1344, 1345, 1346], [], [], [], [], [], [], [], [], [], [], [], [], [], []] = true := by decide +kernel
theorem e_okL237 : e_OkL 237 := by
  intro pc q hm hn
  have hm : (pc, q) ∈ (e_m 237).2.2.2.2.drop 0 := hm
  rcases e_OkL_c e_okL237_0 hm hn with h | hm
  · exact h
  have hl : (e_m 237).2.2.2.2.length ≤ 60 := by decide +kernel
  rw [List.drop_eq_nil_of_le (by omega)] at hm
  cases hm
theorem e_okL238_0 : e_okD "TierMillLaw" (e_m 238).1.name (e_m 238).2.1 ((((e_m 238).2.2.2.2.drop 0).take 60).filter e_nh) [[], [], [], [], [1562, 1563, 1564], [], [], [], [], [], [], [], []] = true := by decide +kernel
theorem e_okL238 : e_OkL 238 := by
  intro pc q hm hn
  have hm : (pc, q) ∈ (e_m 238).2.2.2.2.drop 0 := hm
  rcases e_OkL_c e_okL238_0 hm hn with h | hm
  · exact h
  have hl : (e_m 238).2.2.2.2.length ≤ 60 := by decide +kernel
  rw [List.drop_eq_nil_of_le (by omega)] at hm
  cases hm
theorem e_okL239_0 : e_okD "TierMillLaw" (e_m 239).1.name (e_m 239).2.1 ((((e_m 239).2.2.2.2.drop 0).take 60).filter e_nh) [[], [], [], [], [], [1585, 1586, 1587], [], [], [], [], [], [], [], []] = true := by decide +kernel
theorem e_okL239 : e_OkL 239 := by
  intro pc q hm hn
  have hm : (pc, q) ∈ (e_m 239).2.2.2.2.drop 0 := hm
  rcases e_OkL_c e_okL239_0 hm hn with h | hm
  · exact h
  have hl : (e_m 239).2.2.2.2.length ≤ 60 := by decide +kernel
  rw [List.drop_eq_nil_of_le (by omega)] at hm
  cases hm
theorem e_okL240_0 : e_okD "TierMillLaw" (e_m 240).1.name (e_m 240).2.1 ((((e_m 240).2.2.2.2.drop 0).take 60).filter e_nh) [[], [], [], [], [], [], [1611, 1612, 1613], [], [], [], [], [], [], [], []] = true := by decide +kernel
theorem e_okL240 : e_OkL 240 := by
  intro pc q hm hn
  have hm : (pc, q) ∈ (e_m 240).2.2.2.2.drop 0 := hm
  rcases e_OkL_c e_okL240_0 hm hn with h | hm
  · exact h
  have hl : (e_m 240).2.2.2.2.length ≤ 60 := by decide +kernel
  rw [List.drop_eq_nil_of_le (by omega)] at hm
  cases hm
theorem e_okL241_0 : e_okD "TierMillLaw" (e_m 241).1.name (e_m 241).2.1 ((((e_m 241).2.2.2.2.drop 0).take 60).filter e_nh) [[156, 157, 125], [], [159, 158], [], [1621, 1622, 137], [], [1624, 1623], [], [], [624], [], [], [], [], [], [], [], [], [], [], [], [], [], [], [], [], [], [], [], [], [], [], [], [], [], [], [], [], [], [], [2251], [], [], [], [], [], [], [], [659, 660, 661], [], [], [], [], [], [], [], [], [], [], []] = true := by decide +kernel
theorem e_okL241_60 : e_okD "TierMillLaw" (e_m 241).1.name (e_m 241).2.1 ((((e_m 241).2.2.2.2.drop 60).take 60).filter e_nh) [[], [], [], [], [2251], [], [], [], [], [], [], [], [1910, 1911, 1912], [], [], [], [], [], [], [], [1915, 1916, 1917], [], [], [1906, 1907, 1908], [], [], [], [], [], [], [], [], [], [], [], [], [], [], [], [], [], [], [], [], [], [], [663, 664, 665], [], [], [], [], [], [], [2052, 2053, 2054], [], [], [], [], []] = true := by decide +kernel
theorem e_okL241_120 : e_okD "TierMillLaw" (e_m 241).1.name (e_m 241).2.1 ((((e_m 241).2.2.2.2.drop 120).take 60).filter e_nh) [[], [], [], [], [], [], [], [], [], [], [], [], [], [], [667, 668, 669], [], [], [], [], [], [], [], [], [], [], [], [], [], [], [], [], [2056, 2057, 2058], [], [], [], [], [], [], [], [], [], [], [], [], [], [], [], [], [], [], [], [], [], [], [], [], [685, 686, 687], [], [], []] = true := by decide +kernel
theorem e_okL241_180 : e_okD "TierMillLaw" (e_m 241).1.name (e_m 241).2.1 ((((e_m 241).2.2.2.2.drop 180).take 60).filter e_nh) [[], [], [], [], [], [], [], [], [], [], [], [], [], [], [], [], [], [], [2060, 2061, 2062], [], [], [], [], [], [], [], [], [], [689, 690, 691], [], [], [], [], [], [], [2064, 2065, 2066], [], [], [], [], [], [], [], [], [], [693, 694, 695], [], [], [], [], [], [], [2068, 2069, 2070], [], [], [], [], [], [], []] = true := by decide +kernel
theorem e_okL241_240 : e_okD "TierMillLaw" (e_m 241).1.name (e_m 241).2.1 ((((e_m 241).2.2.2.2.drop 240).take 60).filter e_nh) [[], [], [], [], [], [], [], [], [], [], [], [], [], [], [], [], [], [701, 702, 703], [], [], [], [], [], [], [], [], [], [], [], [], [], [], [], [], [], [], [], [], [], [2072, 2073, 2074], [], [], [], [], [], [], [], [], [], [], [], [], [], [], [], [], [], [2100, 2101, 2102], []] = true := by decide +kernel
theorem e_okL241_300 : e_okD "TierMillLaw" (e_m 241).1.name (e_m 241).2.1 ((((e_m 241).2.2.2.2.drop 300).take 60).filter e_nh) [[], [1906, 1907, 1908], [], [], [], [], [], [], [], [], [], [], [], [], [], [], [], [], [], [1107, 1108, 1109], [], [2195, 2196, 2197], [], [], [], [], [], [], [], [], [], [1111, 1112, 1113], [], [], [], [], [], [], [2199, 2200, 2201], [], [], [], [], [], [], [], [], [], [], [], [], [], [], [], [], [], [2203, 2204, 2205], [], []] = true := by decide +kernel
theorem e_okL241_360 : e_okD "TierMillLaw" (e_m 241).1.name (e_m 241).2.1 ((((e_m 241).2.2.2.2.drop 360).take 60).filter e_nh) [[1906, 1907, 1908], [], [], [], [], [], [], [], [], [], [], [], [], [], [], [], [], [], [], [], [], [], [], [], [], [], [], [], [1115, 1116, 1117], [], [], [], [], [], [], [], [], [], [], [], [2207, 2208, 2209], [], [], [], [], [], [], [], [], [], [], [], [], [], [], [], [], [], []] = true := by decide +kernel
theorem e_okL241_420 : e_okD "TierMillLaw" (e_m 241).1.name (e_m 241).2.1 ((((e_m 241).2.2.2.2.drop 420).take 60).filter e_nh) [[], [], [], [], [], [], [], [], [], [2215, 2216, 2217], [], [], [1906, 1907, 1908], [], [], [], [], [], [], [], [], [], [], [], [], [], [], [], [], [], [], [], [], [], [], [], [], [], [], [], [], [], [], [], [], [], [], [], [], [], [], [], [], [], [], [], [], [], []] = true := by decide +kernel
theorem e_okL241_480 : e_okD "TierMillLaw" (e_m 241).1.name (e_m 241).2.1 ((((e_m 241).2.2.2.2.drop 480).take 60).filter e_nh) [[], [], [], [], [2223, 2224, 2225], [], [], [1906, 1907, 1908], [], [], [], [], [], [], [], [], [], [], [], [], [], [], [], [], [], [], [], [], [], [], [], [], [], [], [], [1123, 1124, 1125], [], [], [], [], [], [], [], [], [], [], [], [2227, 2228, 2229], [], [], [], [], [], [], [], [], [], [], [], []] = true := by decide +kernel
theorem e_okL241_540 : e_okD "TierMillLaw" (e_m 241).1.name (e_m 241).2.1 ((((e_m 241).2.2.2.2.drop 540).take 60).filter e_nh) [[], [], [], [], [], [], [], [1135, 1136, 1137], [], [], [], [], [], [], [], [], [], [], [], [], [], [], [], [], [2235, 2236, 2237], [], [], [], [], [], [], [], [], [], [], [], [], [], [], [], [], [], [], [], [1139, 1140, 1141], [], [], [], [], [], [], [], [], [], [], [], [], [], [], []] = true := by decide +kernel
theorem e_okL241_600 : e_okD "TierMillLaw" (e_m 241).1.name (e_m 241).2.1 ((((e_m 241).2.2.2.2.drop 600).take 60).filter e_nh) [[], [2239, 2240, 2241], [], [], [], [], [], [], [], [], [], [], [], [], [], [], [1143, 1144, 1145], [], [], [], [], [], [], [], [], [], [], [], [2243, 2244, 2245], [], [], [], [], [], [], [], [], [], [1147, 1148, 1149], [], [], [], [], [], [], [2247, 2248, 2249], [], [], [], [], [], [], []] = true := by decide +kernel
theorem e_okL241 : e_OkL 241 := by
  intro pc q hm hn
  have hm : (pc, q) ∈ (e_m 241).2.2.2.2.drop 0 := hm
  rcases e_OkL_c e_okL241_0 hm hn with h | hm
  · exact h
  rcases e_OkL_c e_okL241_60 hm hn with h | hm
  · exact h
  rcases e_OkL_c e_okL241_120 hm hn with h | hm
  · exact h
  rcases e_OkL_c e_okL241_180 hm hn with h | hm
  · exact h
  rcases e_OkL_c e_okL241_240 hm hn with h | hm
  · exact h
  rcases e_OkL_c e_okL241_300 hm hn with h | hm
  · exact h
  rcases e_OkL_c e_okL241_360 hm hn with h | hm
  · exact h
  rcases e_OkL_c e_okL241_420 hm hn with h | hm
  · exact h
  rcases e_OkL_c e_okL241_480 hm hn with h | hm
  · exact h
  rcases e_OkL_c e_okL241_540 hm hn with h | hm
  · exact h
  rcases e_OkL_c e_okL241_600 hm hn with h | hm
  · exact h
  have hl : (e_m 241).2.2.2.2.length ≤ 660 := by decide +kernel
  rw [List.drop_eq_nil_of_le (by omega)] at hm
  cases hm
