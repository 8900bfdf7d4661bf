theorem e_nr_W2 {p : Program} {l : Launch} {e : Env} {R : Room} {s : State} {m : MethodId} {args : Array Value} {below : List Frame} {meth : Method} {c : Code} {H : Heap} {locs : List Loc} {cells slots mc ms : Nat} {w : eW} {Q Q2 : eQ} {A : Nat → Prop} {g : JFrame} (hQ : ∀ v M, Q v M → Q2 v M) (h : W p l e R s m args below meth c H locs cells slots (MQ below (e_Qc w (e_nr Q)) args s mc ms A) g) : W p l e R s m args below meth c H locs cells slots (MQ below (e_Qc w (e_nr Q2)) args s mc ms A) g := by
  intro T hT X
  obtain ⟨t, a1, o, b1, b2, ⟨⟨v, M', c1, c2, c3⟩, c4⟩, b4⟩ := h T hT X
  exact ⟨t, a1, o, b1, b2, ⟨⟨v, M', c1, ⟨hQ _ _ c2.1, c2.2⟩, c3⟩, c4⟩, b4⟩
theorem e_F.post {am : eAm} {i d kc ks pc : Nat} {lv : eL} {st : List Value} {M : eM} {Q Q2 : eQ} (h : e_F am i d kc ks pc lv st M Q) (hQ : ∀ v M, Q v M → Q2 v M) : e_F am i d kc ks pc lv st M Q2 := by
  intro A
  refine h ?_
  obtain ⟨p, l, e, R, s, m, args, below, meth, c, Qf, w⟩ := am
  obtain ⟨h1, h2, h3, h4, h5, h6, h7, hmq⟩ := A
  exact ⟨h1, h2, h3, h4, h5, h6, h7, fun H locs cells slots g z => hmq H locs cells slots g (e_nr_W2 hQ z)⟩
theorem f_helpI {am : eAm} {d d' mc ms kc ks kc' ks' pc pc' x i b na nj : Nat} {z : Int} {lv : eL} {st r av : List Value} {M : eM} {Q : eQ} {P : Int32 → eM → Prop} (hL : e_OkL i) (hd : d = d' + 1) (hq : e_dec 84 pc = some (.invokestatic x, 3, i, b, z)) (hi : 79 ≤ i ∧ i ≤ 83) (hna : i - 77 - (if 81 ≤ i then 1 else 0) = na) (hle : na ≤ st.length) (hav : (st.take na).reverse = av) (hj : (e_m i).2.2.1 = nj) (hlen : (lg_sl av).length ≤ nj) (hdr : st.drop na = r) (h8 : (r.map fun v => v.category).sum ≤ 8) (g1 : mc ≤ kc) (g2 : ms ≤ ks) (hp : pc + 3 = pc') (hk1 : kc - mc = kc') (hk2 : ks - ms = ks')
    (hF : ∀ am', e_tab am' i → e_F am' i d' mc ms 0 (lv_args 0 av) [] M (e_QI P)) (k : ∀ y M', P y M' → e_F am 84 d kc' ks' pc' lv (.int y :: r) M' Q) : e_F am 84 d kc ks pc lv st M Q := by
  subst hav; subst hj; subst hdr; subst hp; subst hk1; subst hk2
  refine f_help hL hd hq hi hna hle hlen h8 g1 g2 fun am' ht => (hF am' ht).post ?_
  rintro v M' ⟨y, rfl, hy⟩
  exact k y M' hy
theorem e_okL79_0 : e_okD "TierMillLaw" (e_m 79).1.name (e_m 79).2.1 ((((e_m 79).2.2.2.2.drop 0).take 60).filter e_nh) [[], [], [], [857, 858, 859], [], [], [], [], [], [], [], []] = true := by decide +kernel
theorem e_okL79 : e_OkL 79 := by
  intro pc q hm hn
  have hm : (pc, q) ∈ (e_m 79).2.2.2.2.drop 0 := hm
  rcases e_OkL_c e_okL79_0 hm hn with h | hm
  · exact h
  have hl : (e_m 79).2.2.2.2.length ≤ 60 := by decide +kernel
  rw [List.drop_eq_nil_of_le (by omega)] at hm
  cases hm
theorem e_okL80_0 : e_okD "TierMillLaw" (e_m 80).1.name (e_m 80).2.1 ((((e_m 80).2.2.2.2.drop 0).take 60).filter e_nh) [[], [], [], [], [1142, 1143, 1144], [], [], [], [], [], [], [], [], [], [], [], [], [], []] = true := by decide +kernel
theorem e_okL80 : e_OkL 80 := by
  intro pc q hm hn
  have hm : (pc, q) ∈ (e_m 80).2.2.2.2.drop 0 := hm
  rcases e_OkL_c e_okL80_0 hm hn with h | hm
  · exact h
  have hl : (e_m 80).2.2.2.2.length ≤ 60 := by decide +kernel
  rw [List.drop_eq_nil_of_le (by omega)] at hm
  cases hm
theorem e_okL81_0 : e_okD "TierMillLaw" (e_m 81).1.name (e_m 81).2.1 ((((e_m 81).2.2.2.2.drop 0).take 60).filter e_nh) [[], [], [], [], [1370, 1371, 1372], [], [], [], [], [], [], [], []] = true := by decide +kernel
theorem e_okL81 : e_OkL 81 := by
  intro pc q hm hn
  have hm : (pc, q) ∈ (e_m 81).2.2.2.2.drop 0 := hm
  rcases e_OkL_c e_okL81_0 hm hn with h | hm
  · exact h
  have hl : (e_m 81).2.2.2.2.length ≤ 60 := by decide +kernel
  rw [List.drop_eq_nil_of_le (by omega)] at hm
  cases hm
theorem e_okL82_0 : e_okD "TierMillLaw" (e_m 82).1.name (e_m 82).2.1 ((((e_m 82).2.2.2.2.drop 0).take 60).filter e_nh) [[], [], [], [], [], [1393, 1394, 1395], [], [], [], [], [], [], [], []] = true := by decide +kernel
theorem e_okL82 : e_OkL 82 := by
  intro pc q hm hn
  have hm : (pc, q) ∈ (e_m 82).2.2.2.2.drop 0 := hm
  rcases e_OkL_c e_okL82_0 hm hn with h | hm
  · exact h
  have hl : (e_m 82).2.2.2.2.length ≤ 60 := by decide +kernel
  rw [List.drop_eq_nil_of_le (by omega)] at hm
  cases hm
theorem e_okL83_0 : e_okD "TierMillLaw" (e_m 83).1.name (e_m 83).2.1 ((((e_m 83).2.2.2.2.drop 0).take 60).filter e_nh) [[], [], [], [], [], [], [1419, 1420, 1421], [], [], [], [], [], [], [], []] = true := by decide +kernel
theorem e_okL83 : e_OkL 83 := by
  intro pc q hm hn
  have hm : (pc, q) ∈ (e_m 83).2.2.2.2.drop 0 := hm
  rcases e_OkL_c e_okL83_0 hm hn with h | hm
  · exact h
  have hl : (e_m 83).2.2.2.2.length ≤ 60 := by decide +kernel
  rw [List.drop_eq_nil_of_le (by omega)] at hm
  cases hm
theorem e_okL84_0 : e_okD "TierMillLaw" (e_m 84).1.name (e_m 84).2.1 ((((e_m 84).2.2.2.2.drop 0).take 60).filter e_nh) [[146, 147, 125], [], [149, 148], [], [1430, 1431, 137], [], [1433, 1432], [], [], [321], [], [], [], [], [], [], [], [], [], [], [], [], [], [], [], [], [], [], [], [], [], [], [], [], [], [], [], [], [], [], [2060], [], [], [], [], [], [], [], [653, 654, 655], [], [], [], [], [], [], [], [], [], [], []] = true := by decide +kernel
theorem e_okL84_60 : e_okD "TierMillLaw" (e_m 84).1.name (e_m 84).2.1 ((((e_m 84).2.2.2.2.drop 60).take 60).filter e_nh) [[], [], [], [], [2060], [], [], [], [], [], [], [], [1719, 1720, 1721], [], [], [], [], [], [], [], [1724, 1725, 1726], [], [], [1715, 1716, 1717], [], [], [], [], [], [], [], [], [], [], [], [], [], [], [], [], [], [], [], [], [], [], [658, 659, 660], [], [], [], [], [], [], [1861, 1862, 1863], [], [], [], [], []] = true := by decide +kernel
theorem e_okL84_120 : e_okD "TierMillLaw" (e_m 84).1.name (e_m 84).2.1 ((((e_m 84).2.2.2.2.drop 120).take 60).filter e_nh) [[], [], [], [], [], [], [], [], [], [], [], [], [], [], [662, 663, 664], [], [], [], [], [], [], [], [], [], [], [], [], [], [], [], [], [1865, 1866, 1867], [], [], [], [], [], [], [], [], [], [], [], [], [], [], [], [], [], [], [], [], [], [], [], [], [695, 696, 697], [], [], []] = true := by decide +kernel
theorem e_okL84_180 : e_okD "TierMillLaw" (e_m 84).1.name (e_m 84).2.1 ((((e_m 84).2.2.2.2.drop 180).take 60).filter e_nh) [[], [], [], [], [], [], [], [], [], [], [], [], [], [], [], [], [], [], [1869, 1870, 1871], [], [], [], [], [], [], [], [], [], [699, 700, 701], [], [], [], [], [], [], [1873, 1874, 1875], [], [], [], [], [], [], [], [], [], [703, 704, 705], [], [], [], [], [], [], [1877, 1878, 1879], [], [], [], [], [], [], []] = true := by decide +kernel
theorem e_okL84_240 : e_okD "TierMillLaw" (e_m 84).1.name (e_m 84).2.1 ((((e_m 84).2.2.2.2.drop 240).take 60).filter e_nh) [[], [], [], [], [], [], [], [], [], [], [], [], [], [], [], [], [], [712, 713, 714], [], [], [], [], [], [], [], [], [], [], [], [], [], [], [], [], [], [], [], [], [], [1881, 1882, 1883], [], [], [], [], [], [], [], [], [], [], [], [], [], [], [], [], [], [1909, 1910, 1911], []] = true := by decide +kernel
theorem e_okL84_300 : e_okD "TierMillLaw" (e_m 84).1.name (e_m 84).2.1 ((((e_m 84).2.2.2.2.drop 300).take 60).filter e_nh) [[], [1715, 1716, 1717], [], [], [], [], [], [], [], [], [], [], [], [], [], [], [], [], [], [809, 810, 811], [], [2004, 2005, 2006], [], [], [], [], [], [], [], [], [], [813, 814, 815], [], [], [], [], [], [], [2008, 2009, 2010], [], [], [], [], [], [], [], [], [], [], [], [], [], [], [], [], [], [2012, 2013, 2014], [], []] = true := by decide +kernel
theorem e_okL84_360 : e_okD "TierMillLaw" (e_m 84).1.name (e_m 84).2.1 ((((e_m 84).2.2.2.2.drop 360).take 60).filter e_nh) [[1715, 1716, 1717], [], [], [], [], [], [], [], [], [], [], [], [], [], [], [], [], [], [], [], [], [], [], [], [], [], [], [], [817, 818, 819], [], [], [], [], [], [], [], [], [], [], [], [2016, 2017, 2018], [], [], [], [], [], [], [], [], [], [], [], [], [], [], [], [], [], []] = true := by decide +kernel
theorem e_okL84_420 : e_okD "TierMillLaw" (e_m 84).1.name (e_m 84).2.1 ((((e_m 84).2.2.2.2.drop 420).take 60).filter e_nh) [[], [], [], [], [], [], [], [], [], [2024, 2025, 2026], [], [], [1715, 1716, 1717], [], [], [], [], [], [], [], [], [], [], [], [], [], [], [], [], [], [], [], [], [], [], [], [], [], [], [], [], [], [], [], [], [], [], [], [], [], [], [], [], [], [], [], [], [], []] = true := by decide +kernel
theorem e_okL84_480 : e_okD "TierMillLaw" (e_m 84).1.name (e_m 84).2.1 ((((e_m 84).2.2.2.2.drop 480).take 60).filter e_nh) [[], [], [], [], [2032, 2033, 2034], [], [], [1715, 1716, 1717], [], [], [], [], [], [], [], [], [], [], [], [], [], [], [], [], [], [], [], [], [], [], [], [], [], [], [], [825, 826, 827], [], [], [], [], [], [], [], [], [], [], [], [2036, 2037, 2038], [], [], [], [], [], [], [], [], [], [], [], []] = true := by decide +kernel
theorem e_okL84_540 : e_okD "TierMillLaw" (e_m 84).1.name (e_m 84).2.1 ((((e_m 84).2.2.2.2.drop 540).take 60).filter e_nh) [[], [], [], [], [], [], [], [837, 838, 839], [], [], [], [], [], [], [], [], [], [], [], [], [], [], [], [], [2044, 2045, 2046], [], [], [], [], [], [], [], [], [], [], [], [], [], [], [], [], [], [], [], [841, 842, 843], [], [], [], [], [], [], [], [], [], [], [], [], [], [], []] = true := by decide +kernel
theorem e_okL84_600 : e_okD "TierMillLaw" (e_m 84).1.name (e_m 84).2.1 ((((e_m 84).2.2.2.2.drop 600).take 60).filter e_nh) [[], [2048, 2049, 2050], [], [], [], [], [], [], [], [], [], [], [], [], [], [], [845, 846, 847], [], [], [], [], [], [], [], [], [], [], [], [2052, 2053, 2054], [], [], [], [], [], [], [], [], [], [849, 850, 851], [], [], [], [], [], [], [2056, 2057, 2058], [], [], [], [], [], [], []] = true := by decide +kernel
theorem e_okL84 : e_OkL 84 := by
  intro pc q hm hn
  have hm : (pc, q) ∈ (e_m 84).2.2.2.2.drop 0 := hm
  rcases e_OkL_c e_okL84_0 hm hn with h | hm
  · exact h
  rcases e_OkL_c e_okL84_60 hm hn with h | hm
  · exact h
  rcases e_OkL_c e_okL84_120 hm hn with h | hm
  · exact h
  rcases e_OkL_c e_okL84_180 hm hn with h | hm
  · exact h
  rcases e_OkL_c e_okL84_240 hm hn with h | hm
  · exact h
  rcases e_OkL_c e_okL84_300 hm hn with h | hm
  · exact h
  rcases e_OkL_c e_okL84_360 hm hn with h | hm
  · exact h
  rcases e_OkL_c e_okL84_420 hm hn with h | hm
  · exact h
  rcases e_OkL_c e_okL84_480 hm hn with h | hm
  · exact h
  rcases e_OkL_c e_okL84_540 hm hn with h | hm
  · exact h
  rcases e_OkL_c e_okL84_600 hm hn with h | hm
  · exact h
  have hl : (e_m 84).2.2.2.2.length ≤ 660 := by decide +kernel
  rw [List.drop_eq_nil_of_le (by omega)] at hm
  cases hm
