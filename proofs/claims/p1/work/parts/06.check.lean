/-! ===== the tables' rows, looked at by program: each word by its place ===== -/
def e_at (p : Nat) (w : Cond) : Bool := decide (lw_tbl[p]? = some w) && goodWord w
theorem e_at_big {p : Nat} {w : Cond} (h : e_at p w = true) : w ∈ e_big := by
  unfold e_at at h
  rw [Bool.and_eq_true, decide_eq_true_eq] at h
  exact List.mem_filter.mpr ⟨List.mem_of_getElem? h.1, h.2⟩
def e_ln : Instr → Nat
  | .aload _ | .iload _ | .lload _ | .istore _ | .astore _ | .lstore _ | .bipush _ | .ldc _ | .newarray _ => 2
  | .sipush _ | .ldc_w _ | .ldc2_w _ | .getfield _ | .putfield _ | .getstatic _ | .new _ | .anewarray _ | .invokevirtual _ | .invokespecial _ | .invokestatic _ | .checkcast _ => 3
  | .goto _ | .ifCond _ _ | .if_icmp _ _ | .ifnull _ | .ifnonnull _ | .iinc _ _ => 3
  | .tableswitch _ _ _ _ | .lookupswitch _ _ => 0
  | _ => 1
def e_kty (kind : Nat) (ty : FieldType) : Bool := match ty with
  | .int => kind == 0
  | .long => kind == 1
  | .boolean => kind == 3
  | .object _ | .array _ => kind == 2
  | _ => false
def e_ats : List Cond → List Nat → Bool
  | [], _ => true
  | w :: ws, p :: ps => e_at p w && e_ats ws ps
  | _ :: _, [] => false
theorem e_ats_big : ∀ {ws : List Cond} {ps : List Nat}, e_ats ws ps = true → ∀ w ∈ ws, w ∈ e_big
  | [], _, _, w, hw => by cases hw
  | v :: ws, [], h, w, hw => by cases h
  | v :: ws, p :: ps, h, w, hw => by
    unfold e_ats at h
    rw [Bool.and_eq_true] at h
    rcases List.mem_cons.mp hw with rfl | hw
    · exact e_at_big h.1
    · exact e_ats_big h.2 w hw
def e_clokW (ci : Nat) (ps : List Nat) : Bool := match e_cl[ci]? with
  | some q => e_ats (u_ws q.1 q.2.1 q.2.2) ps
  | none => false
def e_clokT (ci : Nat) : Bool := match e_cl[ci]?, e_ys[ci]? with
  | some q, some y => (List.range q.2.2).all (fun k => decide (parseFieldDescriptor (q.2.1 k).2.2.1 = some (y k)) && e_kty ((e_fk ci).getD k 0) (y k)) && decide ((e_fk ci).length = q.2.2)
  | _, _ => false
def e_nd : List String → Bool
  | [] => true
  | a :: l => !(l.contains a) && e_nd l
def e_clokN (ci : Nat) : Bool := match e_cl[ci]? with
  | some q => e_nd ((List.range q.2.2).map (fun k => (q.2.1 k).2.1))
  | none => false
theorem e_nd_ne : ∀ {l : List String}, e_nd l = true → ∀ (i j : Nat) (a b : String), l[i]? = some a → l[j]? = some b → i ≠ j → a ≠ b
  | [], _, i, j, a, b, h, _, _ => by simp at h
  | c :: l, hn, i, j, a, b, h1, h2, hij => by
    unfold e_nd at hn
    simp only [Bool.and_eq_true, Bool.not_eq_true', List.contains_eq_mem, decide_eq_false_iff_not] at hn
    cases i with
    | zero =>
      cases j with
      | zero => exact absurd rfl hij
      | succ j =>
        rw [List.getElem?_cons_zero] at h1
        rw [List.getElem?_cons_succ] at h2
        cases h1
        exact fun e => hn.1 (by rw [e]; exact List.mem_of_getElem? h2)
    | succ i =>
      rw [List.getElem?_cons_succ] at h1
      cases j with
      | zero =>
        rw [List.getElem?_cons_zero] at h2
        cases h2
        exact fun e => hn.1 (by rw [← e]; exact List.mem_of_getElem? h1)
      | succ j =>
        rw [List.getElem?_cons_succ] at h2
        exact e_nd_ne hn.2 i j a b h1 h2 (fun e => hij (by rw [e]))

theorem e_cp0 : e_clokW 0 [349, 351, 353] = true := by decide +kernel
theorem e_ct0 : e_clokT 0 = true := by decide +kernel
theorem e_cn0 : e_clokN 0 = true := by decide +kernel
theorem e_cp1 : e_clokW 1 [437, 439, 441, 443, 445, 447, 449, 451] = true := by decide +kernel
theorem e_ct1 : e_clokT 1 = true := by decide +kernel
theorem e_cn1 : e_clokN 1 = true := by decide +kernel
theorem e_cp2 : e_clokW 2 [471, 473, 475, 477, 479] = true := by decide +kernel
theorem e_ct2 : e_clokT 2 = true := by decide +kernel
theorem e_cn2 : e_clokN 2 = true := by decide +kernel
theorem e_cp3 : e_clokW 3 [584, 586, 588, 590, 592, 594, 596, 598, 600, 602, 604, 606, 608, 610, 612, 614, 616] = true := by decide +kernel
theorem e_ct3 : e_clokT 3 = true := by decide +kernel
theorem e_cn3 : e_clokN 3 = true := by decide +kernel
theorem e_cp4 : e_clokW 4 [785, 787, 789] = true := by decide +kernel
theorem e_ct4 : e_clokT 4 = true := by decide +kernel
theorem e_cn4 : e_clokN 4 = true := by decide +kernel
theorem e_cp5 : e_clokW 5 [284, 286, 288, 290, 292, 294, 296, 298, 300, 302, 304, 306, 308, 310, 312, 314, 316, 318] = true := by decide +kernel
theorem e_ct5 : e_clokT 5 = true := by decide +kernel
theorem e_cn5 : e_clokN 5 = true := by decide +kernel
theorem e_cp6 : e_clokW 6 [331, 333, 335] = true := by decide +kernel
theorem e_ct6 : e_clokT 6 = true := by decide +kernel
theorem e_cn6 : e_clokN 6 = true := by decide +kernel
theorem e_cp7 : e_clokW 7 [170] = true := by decide +kernel
theorem e_ct7 : e_clokT 7 = true := by decide +kernel
theorem e_cn7 : e_clokN 7 = true := by decide +kernel
theorem e_cp8 : e_clokW 8 [213, 215, 217, 219, 221, 223, 225] = true := by decide +kernel
theorem e_ct8 : e_clokT 8 = true := by decide +kernel
theorem e_cn8 : e_clokN 8 = true := by decide +kernel
theorem e_cp9 : e_clokW 9 [514, 516, 518, 520, 522, 524, 526, 528, 530, 532, 534, 536, 538] = true := by decide +kernel
theorem e_ct9 : e_clokT 9 = true := by decide +kernel
theorem e_cn9 : e_clokN 9 = true := by decide +kernel
theorem e_cp10 : e_clokW 10 [379, 381, 383, 385, 387, 389, 391, 393, 395] = true := by decide +kernel
theorem e_ct10 : e_clokT 10 = true := by decide +kernel
theorem e_cn10 : e_clokN 10 = true := by decide +kernel
theorem e_cp11 : e_clokW 11 [630, 632, 634, 636, 638, 640, 642, 644, 646, 648, 650] = true := by decide +kernel
theorem e_ct11 : e_clokT 11 = true := by decide +kernel
theorem e_cn11 : e_clokN 11 = true := by decide +kernel
theorem e_cp12 : e_clokW 12 [1529, 1531, 1533, 1535, 1537, 1539, 1541, 1543, 1545, 1547, 1549, 1551, 1553, 1555, 1557, 1559, 1561, 1563, 1565, 1567, 1569, 1571, 1573, 1575, 1577, 1579, 1581, 1583, 1585, 1587, 1589, 1591, 1593, 1595, 1597, 1599, 1601, 1603, 1605, 1607, 1609, 1611, 1613, 1615, 1617, 1619, 1621, 1623, 1625, 1627, 1629, 1631, 1633, 1635, 1637, 1639, 1641, 1643, 1645, 1647, 1649, 1651, 1653, 1655, 1657, 1659, 1661, 1663, 1665, 1667, 1669, 1671, 1673, 1675, 1677, 1679, 1681, 1683, 1685, 1687, 1689, 1691, 1693, 1695, 1697, 1699, 1701, 1703, 1705, 1707, 1709, 1711] = true := by decide +kernel
theorem e_ct12 : e_clokT 12 = true := by decide +kernel
theorem e_cn12 : e_clokN 12 = true := by decide +kernel
theorem e_cl_ok : ∀ (ci : Nat) (q : vw_C), e_cl[ci]? = some q → (∃ ps, e_clokW ci ps = true) ∧ e_clokT ci = true ∧ e_clokN ci = true
  | 0, _, _ => ⟨⟨_, e_cp0⟩, e_ct0, e_cn0⟩
  | 1, _, _ => ⟨⟨_, e_cp1⟩, e_ct1, e_cn1⟩
  | 2, _, _ => ⟨⟨_, e_cp2⟩, e_ct2, e_cn2⟩
  | 3, _, _ => ⟨⟨_, e_cp3⟩, e_ct3, e_cn3⟩
  | 4, _, _ => ⟨⟨_, e_cp4⟩, e_ct4, e_cn4⟩
  | 5, _, _ => ⟨⟨_, e_cp5⟩, e_ct5, e_cn5⟩
  | 6, _, _ => ⟨⟨_, e_cp6⟩, e_ct6, e_cn6⟩
  | 7, _, _ => ⟨⟨_, e_cp7⟩, e_ct7, e_cn7⟩
  | 8, _, _ => ⟨⟨_, e_cp8⟩, e_ct8, e_cn8⟩
  | 9, _, _ => ⟨⟨_, e_cp9⟩, e_ct9, e_cn9⟩
  | 10, _, _ => ⟨⟨_, e_cp10⟩, e_ct10, e_cn10⟩
  | 11, _, _ => ⟨⟨_, e_cp11⟩, e_ct11, e_cn11⟩
  | 12, _, _ => ⟨⟨_, e_cp12⟩, e_ct12, e_cn12⟩
  | n + 13, q, h => by simp [e_cl] at h
theorem e_cl_f {ci : Nat} {q : vw_C} (h : e_cl[ci]? = some q) : ∃ y : Nat → FieldType, (∀ w ∈ u_ws q.1 q.2.1 q.2.2, w ∈ e_big) ∧ (∀ k, k < q.2.2 → parseFieldDescriptor (q.2.1 k).2.2.1 = some (y k)) ∧ (∀ k, k < q.2.2 → e_kty ((e_fk ci).getD k 0) (y k) = true) ∧ (e_fk ci).length = q.2.2 ∧ ∀ a, a < q.2.2 → ∀ b, b < q.2.2 → a ≠ b → (q.2.1 a).2.1 ≠ (q.2.1 b).2.1 := by
  obtain ⟨⟨ps, h1⟩, h2, h3⟩ := e_cl_ok ci q h
  unfold e_clokW at h1
  unfold e_clokT at h2
  unfold e_clokN at h3
  rw [h] at h1 h2 h3
  cases hy : e_ys[ci]? with
  | none => rw [hy] at h2; cases h2
  | some y =>
    rw [hy] at h2
    simp only [Bool.and_eq_true, List.all_eq_true, decide_eq_true_eq, List.mem_range] at h2
    refine ⟨y, e_ats_big h1, fun k hk => (h2.1 k hk).1, fun k hk => (h2.1 k hk).2, h2.2, fun a ha b hb hab => ?_⟩
    exact e_nd_ne h3 a b _ _ (by rw [List.getElem?_map, List.getElem?_range ha]; rfl) (by rw [List.getElem?_map, List.getElem?_range hb]; rfl) hab
/-- the five methods that throw -/
def e_thn (own nm : String) : Bool := own == "TierMill" && ["load", "run", "output", "local", "part"].contains nm
/-- a field's link, by its class and place -/
def e_okF (own : String) (x a b : Nat) (ps : List Nat) : Bool := match e_cl[a]? with
  | some q => decide (b < q.2.2) && e_ats [.fieldLink own x (q.2.1 b).1 (q.2.1 b).2.1 (q.2.1 b).2.2.1] ps
  | none => false
def e_m (j : Nat) : MethodName × ByteArray × Nat × Option FieldType × List (Nat × Instr × Nat × Nat × Nat × Int) := e_ms.getD j (⟨"", "", ""⟩, .empty, 0, none, [])
def e_pn (j : Nat) : Nat := e_pns.getD j 999
/-- a callee: its code, its class, how many it takes -/
def e_okM (j na : Nat) (ps : List Nat) : Bool := e_ats [.code (e_m j).1 (e_m j).2.1 (e_m j).2.2.1 (e_m j).2.2.2.1, .initialized (e_m j).1.cls] ps && (decide ((e_m j).1.cls ≠ "java/lang/invoke/MethodHandle") && (decide ((e_m j).1.cls ≠ "java/lang/invoke/VarHandle") && (decide ((parseMethodDescriptor (e_m j).1.desc).map (fun d => d.parameters.length) = some na) && (decide ((e_m j).2.2.1 ≤ 45) && (plainName (e_m j).1.cls || (j == 997 || j == 998))))))
def e_okI (own nm : String) (pc : Nat) (q : eI) (ps : List Nat) : Bool :=
  (e_ln q.1 == 0 || q.2.1 == e_ln q.1) && match q.1 with
  | .getfield x => decide (20 ≤ q.2.2.1) || e_okF own x q.2.2.1 q.2.2.2.1 ps
  | .putfield x => decide (20 ≤ q.2.2.1) || (e_okF own x q.2.2.1 q.2.2.2.1 ps && (match e_cl[q.2.2.1]? with | some r => (!(r.2.1 q.2.2.2.1).2.2.2) || (nm == "<init>" && (r.2.1 q.2.2.2.1).1 == own) | none => false))
  | .getstatic x => decide (q.2.2.1 = 0) || decide ((own, x, (if q.2.2.1 = 2 then "SIZES" else if q.2.2.1 = 3 then "TAKES" else "PUTS"), q.2.2.1) ∈ e_nsF)
  | .ldc x => q.2.2.1 != 0 || e_ats [.constant own x (Int32.ofInt q.2.2.2.2)] ps
  | .ldc_w x => q.2.2.1 != 0 || e_ats [.constant own x (Int32.ofInt q.2.2.2.2)] ps
  | .ldc2_w x => e_ats [.constantLong own x (Int64.ofInt q.2.2.2.2)] ps
  | .new x => (decide (20 ≤ q.2.2.1) && (!(decide (91 ≤ q.2.2.1 ∧ q.2.2.1 ≤ 94)) || e_thn own nm)) || (match e_cl[q.2.2.1]? with | some r => e_ats [.classLink own x r.1, .instantiable r.1 r.2.2, .initialized r.1] ps | none => false)
  | .newarray t => (q.2.2.1 == 20 && (t == .int && e_ats [.arrayClass .int] ps)) || ((q.2.2.1 == 21 && (t == .long && e_ats [.arrayClass .long] ps)) || ((q.2.2.1 == 22 && (t == .boolean && e_ats [.arrayClass .boolean] ps)) || q.2.2.1 == 99))
  | .anewarray x => (q.2.2.1 == 23 && e_ats [.classLink own x "TierMill$Plan"] ps) || (q.2.2.1 == 24 && e_ats [.classLink own x "TierMill$Shape"] ps)
  | .invokevirtual x => decide (900 ≤ q.2.2.1) || (decide (q.2.2.1 < 79 ∧ q.2.2.2.2.toNat = e_pn q.2.2.1) && (e_ats [.methodLink own x (e_m q.2.2.1).1, .instanceMethod (e_m q.2.2.1).1, .selects (e_m q.2.2.1).1.cls (e_m q.2.2.1).1 (e_m q.2.2.1).1] ps && (match e_cl[q.2.2.2.1]? with | some r => r.1 == (e_m q.2.2.1).1.cls | none => false)))
  | .invokespecial x => if q.2.2.1 = 900 then e_ats [.methodLink own x objectInit, .instanceMethod objectInit, .code objectInit ⟨#[0xb1]⟩ 1 none] ps else decide (900 < q.2.2.1) || (decide (q.2.2.1 < 79 ∧ q.2.2.2.2.toNat = e_pn q.2.2.1) && ((e_m q.2.2.1).2.2.2.1 == none && ((e_m q.2.2.1).1.name == "<init>" && (if q.2.2.2.1 = 1 then e_ats [.instanceMethod (e_m q.2.2.1).1] ps && decide ((own, x, (e_m q.2.2.1).1) ∈ e_nsM) else e_ats [.instanceMethod (e_m q.2.2.1).1, .methodLink own x (e_m q.2.2.1).1] ps))))
  | .invokestatic x => if q.2.2.1 = 901 then e_ats [.methodLink own x arraycopyName, .native arraycopyName, .static arraycopyName, .initialized "java/lang/System"] ps else if q.2.2.1 = 905 then e_ats [.methodLink own x Lib.Math.max.name, .static Lib.Math.max.name, .initialized "java/lang/Math", .code Lib.Math.max.name Lib.Math.max.code 2 (some .int)] ps else if q.2.2.1 = 906 then e_ats [.methodLink own x Lib.Math.min.name, .static Lib.Math.min.name, .initialized "java/lang/Math", .code Lib.Math.min.name Lib.Math.min.code 2 (some .int)] ps else decide (900 ≤ q.2.2.1) || (decide (q.2.2.1 < 79 ∧ q.2.2.2.2.toNat = e_pn q.2.2.1) && e_ats [.methodLink own x (e_m q.2.2.1).1, .static (e_m q.2.2.1).1] ps)
  | .goto o => (pc : Int) + o == (q.2.2.1 : Int)
  | .ifCond _ o => (pc : Int) + o == (q.2.2.1 : Int)
  | .if_icmp _ o => (pc : Int) + o == (q.2.2.1 : Int)
  | .ifnull o => (pc : Int) + o == (q.2.2.1 : Int)
  | .ifnonnull o => (pc : Int) + o == (q.2.2.1 : Int)
  | .tableswitch d _ _ offs => decide (0 ≤ (pc : Int) + d) && offs.toList.all (fun o => decide (0 ≤ (pc : Int) + o))
  | .lookupswitch d ps => (ps.toList.zip (ps.toList.drop 1)).all (fun (a, next) => a.1 < next.1) && (decide (0 ≤ (pc : Int) + d) && ps.toList.all (fun o => decide (0 ≤ (pc : Int) + o.2)))
  | _ => true
theorem e_len {n k : Nat} (h : n + 1 = 0 ∨ k = n + 1) : k = n + 1 := h.resolve_left (Nat.succ_ne_zero n)
/-- an instruction of a method: its bytes, its links -/
def e_okD (own nm : String) (cc : ByteArray) : List (Nat × Instr × Nat × Nat × Nat × Int) → List (List Nat) → Bool
  | [], _ => true
  | q :: qs, p :: ps => decide (decode cc q.1 = .ok (q.2.1, q.2.2.1)) && (e_okI own nm q.1 q.2 p && e_okD own nm cc qs ps)
  | _ :: _, [] => false
theorem e_okD_f {own nm : String} {cc : ByteArray} : ∀ {qs : List (Nat × Instr × Nat × Nat × Nat × Int)} {ps : List (List Nat)}, e_okD own nm cc qs ps = true → ∀ {pc : Nat} {q : eI}, (pc, q) ∈ qs → decode cc pc = .ok (q.1, q.2.1) ∧ ∃ p, e_okI own nm pc q p = true
  | [], _, _, pc, q, hq => by cases hq
  | x :: qs, [], h, pc, q, hq => by cases h
  | x :: qs, p :: ps, h, pc, q, hq => by
    unfold e_okD at h
    rw [Bool.and_eq_true, Bool.and_eq_true, decide_eq_true_eq] at h
    rcases List.mem_cons.mp hq with e | hq
    · cases e
      exact ⟨h.1, p, h.2.1⟩
    · exact e_okD_f h.2.2 hq

