/-! ===== the fresh class, seen: its cells behind the constructors ===== -/
section CLS
variable {L : Nat} {xs : Nat → Int32} {M : eM}
theorem x_o8 (h : y_I L xs 292 287 M) : e_ob M 8 11 := h.ob 8 11 (by decide +kernel) (by decide +kernel) (by decide +kernel)
theorem x_o104 (h : y_I L xs 292 287 M) : e_ob M 104 5 := h.ob 104 5 (by decide +kernel) (by decide +kernel) (by decide +kernel)
theorem x_o105 (h : y_I L xs 292 287 M) : e_ob M 105 7 := h.ob 105 7 (by decide +kernel) (by decide +kernel) (by decide +kernel)
theorem x_o141 (h : y_I L xs 292 287 M) : e_ob M 141 8 := h.ob 141 8 (by decide +kernel) (by decide +kernel) (by decide +kernel)
theorem x_o199 (h : y_I L xs 292 287 M) : e_ob M 199 6 := h.ob 199 6 (by decide +kernel) (by decide +kernel) (by decide +kernel)
theorem x_o204 (h : y_I L xs 292 287 M) : e_ob M 204 3 := h.ob 204 3 (by decide +kernel) (by decide +kernel) (by decide +kernel)
theorem x_o205 (h : y_I L xs 292 287 M) : e_ob M 205 1 := h.ob 205 1 (by decide +kernel) (by decide +kernel) (by decide +kernel)
theorem x_o220 (h : y_I L xs 292 287 M) : e_ob M 220 2 := h.ob 220 2 (by decide +kernel) (by decide +kernel) (by decide +kernel)
theorem x_o225 (h : y_I L xs 292 287 M) : e_ob M 225 9 := h.ob 225 9 (by decide +kernel) (by decide +kernel) (by decide +kernel)
theorem x_o239 (h : y_I L xs 292 287 M) : e_ob M 239 7 := h.ob 239 7 (by decide +kernel) (by decide +kernel) (by decide +kernel)
theorem x_r8_0 (h : y_I L xs 292 287 M) : gr M 8 0 = 199 := h.gr 191 8 0 199 (by decide +kernel) (by decide +kernel)
theorem x_r8_3 (h : y_I L xs 292 287 M) : gr M 8 3 = 204 := h.gr 237 8 3 204 (by decide +kernel) (by decide +kernel)
theorem x_r8_6 (h : y_I L xs 292 287 M) : gr M 8 6 = 104 := h.gr 189 8 6 104 (by decide +kernel) (by decide +kernel)
theorem x_r204_0 (h : y_I L xs 292 287 M) : gr M 204 0 = 205 := h.gr 214 204 0 205 (by decide +kernel) (by decide +kernel)
theorem x_r204_1 (h : y_I L xs 292 287 M) : gr M 204 1 = 220 := h.gr 219 204 1 220 (by decide +kernel) (by decide +kernel)
theorem x_r204_2 (h : y_I L xs 292 287 M) : gr M 204 2 = 225 := h.gr 230 204 2 225 (by decide +kernel) (by decide +kernel)
theorem x_r204_13 (h : y_I L xs 292 287 M) : gr M 204 13 = 239 := h.gr 236 204 13 239 (by decide +kernel) (by decide +kernel)
theorem x_r104_0 (h : y_I L xs 292 287 M) : gr M 104 0 = 105 := h.gr 96 104 0 105 (by decide +kernel) (by decide +kernel)
theorem x_r104_10 (h : y_I L xs 292 287 M) : gr M 104 10 = 140 := h.gr 130 104 10 140 (by decide +kernel) (by decide +kernel)
theorem x_r105_0 (h : y_I L xs 292 287 M) : gr M 105 0 = 106 := h.gr 95 105 0 106 (by decide +kernel) (by decide +kernel)
theorem x_r239_0 (h : y_I L xs 292 287 M) : gr M 239 0 = 240 := h.gr 235 239 0 240 (by decide +kernel) (by decide +kernel)
theorem x_r140_0 (h : y_I L xs 292 287 M) : gr M 140 0 = 141 := h.gr 133 140 0 141 (by decide +kernel) (by decide +kernel)
theorem x_i8_4 (h : y_I L xs 292 287 M) : gi M 8 4 = 0 := h.gi 8 4 (by decide +kernel) (by decide +kernel)
theorem x_i8_7 (h : y_I L xs 292 287 M) : gi M 8 7 = 0 := h.gi 8 7 (by decide +kernel) (by decide +kernel)
theorem x_i8_8 (h : y_I L xs 292 287 M) : gi M 8 8 = 0 := h.gi 8 8 (by decide +kernel) (by decide +kernel)
theorem x_i8_9 (h : y_I L xs 292 287 M) : gi M 8 9 = 0 := h.gi 8 9 (by decide +kernel) (by decide +kernel)
theorem x_i204_4 (h : y_I L xs 292 287 M) : gi M 204 4 = 0 := h.gi 204 4 (by decide +kernel) (by decide +kernel)
theorem x_i204_6 (h : y_I L xs 292 287 M) : gi M 204 6 = 0 := h.gi 204 6 (by decide +kernel) (by decide +kernel)
theorem x_i204_7 (h : y_I L xs 292 287 M) : gi M 204 7 = 0 := h.gi 204 7 (by decide +kernel) (by decide +kernel)
theorem x_i204_8 (h : y_I L xs 292 287 M) : gi M 204 8 = 0 := h.gi 204 8 (by decide +kernel) (by decide +kernel)
theorem x_i204_9 (h : y_I L xs 292 287 M) : gi M 204 9 = 0 := h.gi 204 9 (by decide +kernel) (by decide +kernel)
theorem x_i204_10 (h : y_I L xs 292 287 M) : gi M 204 10 = 0 := h.gi 204 10 (by decide +kernel) (by decide +kernel)
theorem x_i204_11 (h : y_I L xs 292 287 M) : gi M 204 11 = 0 := h.gi 204 11 (by decide +kernel) (by decide +kernel)
theorem x_i204_12 (h : y_I L xs 292 287 M) : gi M 204 12 = 0 := h.gi 204 12 (by decide +kernel) (by decide +kernel)
theorem x_i204_14 (h : y_I L xs 292 287 M) : gi M 204 14 = 0 := h.gi 204 14 (by decide +kernel) (by decide +kernel)
theorem x_i205_0 (h : y_I L xs 292 287 M) : gi M 205 0 = 0 := h.gi 205 0 (by decide +kernel) (by decide +kernel)
theorem x_i220_0 (h : y_I L xs 292 287 M) : gi M 220 0 = 0 := h.gi 220 0 (by decide +kernel) (by decide +kernel)
theorem x_i220_1 (h : y_I L xs 292 287 M) : gi M 220 1 = 0 := h.gi 220 1 (by decide +kernel) (by decide +kernel)
theorem x_i220_2 (h : y_I L xs 292 287 M) : gi M 220 2 = 0 := h.gi 220 2 (by decide +kernel) (by decide +kernel)
theorem x_i225_7 (h : y_I L xs 292 287 M) : gi M 225 7 = 0 := h.gi 225 7 (by decide +kernel) (by decide +kernel)
theorem x_i104_1 (h : y_I L xs 292 287 M) : gi M 104 1 = 0 := h.gi 104 1 (by decide +kernel) (by decide +kernel)
end CLS
section CLO
variable {L : Nat} {xs : Nat → Int32} {M : eM} {Q : Int32 → eM → Prop} {X : Nat → eM → Prop}
theorem c_fault (h : y_I L xs 292 287 M) (x : Int32) (hQ : Q (if x = 0 then 0 else if x = 1 then 0 else if x = 2 then 0 else -1) M) : w_Mill_fault 8 x M Q := by
  unfold w_Mill_fault
  rw [x_i8_7 h, x_i8_8 h, x_i8_9 h]
  refine ⟨fun c => ⟨x_o8 h, ?_⟩, fun c => ⟨fun c1 => ⟨x_o8 h, ?_⟩, fun c1 => ⟨fun c2 => ⟨x_o8 h, ?_⟩, fun c2 => ?_⟩⟩⟩
  · rw [if_pos c] at hQ; exact hQ
  · rw [if_neg c, if_pos c1] at hQ; exact hQ
  · rw [if_neg c, if_neg c1, if_pos c2] at hQ; exact hQ
  · rw [if_neg c, if_neg c1, if_neg c2] at hQ; exact hQ
theorem c_kind (h : y_I L xs 292 287 M) (x y z : Int32) (hQ : Q (-1) M) : w_Mill_kind 8 x y z M Q := by
  unfold w_Mill_kind
  rw [x_i8_4 h]
  exact ⟨x_o8 h, fun _ => hQ, fun c => absurd rfl c⟩
theorem c_start (h : y_I L xs 292 287 M) (x y z u : Int32) (hQ : Q 0 M) : w_Mill_start 8 x y z u M Q := by
  unfold w_Mill_start
  rw [x_i8_4 h]
  exact ⟨x_o8 h, fun c => absurd rfl c, fun _ => ⟨Or.inl rfl, hQ⟩⟩
theorem c_state (h : y_I L xs 292 287 M) (hQ : Q 0 M) : w_Mill_state 8 M Q := by
  unfold w_Mill_state
  rw [x_r8_3 h, x_i204_7 h]
  exact ⟨x_o8 h, x_o204 h, hQ⟩
theorem c_result (h : y_I L xs 292 287 M) (x : Int32) (hQ : Q (if x = 0 then 0 else if x = 1 then 0 else -1) M) : w_Mill_result 8 x M Q := by
  unfold w_Mill_result
  rw [x_r8_3 h, x_i204_8 h, x_i204_9 h]
  refine ⟨fun c => ⟨x_o8 h, x_o204 h, ?_⟩, fun c => ⟨fun c1 => ⟨x_o8 h, x_o204 h, ?_⟩, fun c1 => ?_⟩⟩
  · rw [if_pos c] at hQ; exact hQ
  · rw [if_neg c, if_pos c1] at hQ; exact hQ
  · rw [if_neg c, if_neg c1] at hQ; exact hQ
theorem c_output {kc ks : Nat} (h : y_I L xs 292 287 M) (x : Int32) (hk : 1 ≤ kc) (hs : 6 ≤ ks) (hX : X 94 M) : w_Mill_output kc ks 8 x M Q X := by
  unfold w_Mill_output
  rw [x_r8_3 h, x_i204_6 h]
  refine ⟨fun _ => ⟨hk, hs, hX⟩, fun c => ⟨x_o8 h, x_o204 h, fun _ => ⟨hk, hs, hX⟩, fun c1 => ?_⟩⟩
  exact absurd (Int32.not_lt.mp c) c1
theorem c_from (h : y_I L xs 292 287 M) (x : Int32) (hQ : Q (-1) M) : w_Frames_fromLatest 205 x M Q := by
  unfold w_Frames_fromLatest
  rw [x_i205_0 h]
  refine ⟨fun _ => hQ, fun c => ⟨x_o205 h, fun c1 => absurd c1 c, fun _ => hQ⟩⟩
theorem c_frame (h : y_I L xs 292 287 M) (x y : Int32) (hQ : Q (-1) M) : w_Mill_frame 8 x y M Q := by
  unfold w_Mill_frame
  rw [x_r8_3 h, x_r204_0 h]
  exact ⟨x_o8 h, x_o204 h, x_o205 h, c_from h x ⟨fun c => absurd rfl c, fun _ => hQ⟩⟩
theorem c_local {kc ks : Nat} (h : y_I L xs 292 287 M) (x y : Int32) (hk : 1 ≤ kc) (hs : 6 ≤ ks) (hX : X 94 M) : w_Mill_local kc ks 8 x y M Q X := by
  unfold w_Mill_local
  rw [x_r8_3 h, x_r204_0 h]
  exact ⟨x_o8 h, x_o204 h, x_o205 h, c_from h x ⟨x_o8 h, fun c => absurd rfl c, fun _ => ⟨fun c => absurd rfl c, fun _ => ⟨hk, hs, hX⟩⟩⟩⟩
theorem c_part {kc ks : Nat} (h : y_I L xs 292 287 M) (x y z : Int32) (hk : 1 ≤ kc) (hs : 6 ≤ ks) (hX : X 94 M) : w_Mill_part kc ks 8 x y z M Q X := by
  unfold w_Mill_part
  rw [x_r8_3 h, x_r204_0 h]
  exact ⟨x_o8 h, x_o204 h, x_o205 h, c_from h x ⟨x_o8 h, fun c => absurd rfl c, fun _ => ⟨fun _ => ⟨hk, hs, hX⟩, fun c => absurd rfl c⟩⟩⟩
theorem c_method (h : y_I L xs 292 287 M) (x y : Int32) (hQ : Q (-1) M) : w_Mill_method 8 x y M Q := by
  unfold w_Mill_method
  rw [x_i8_4 h]
  exact ⟨x_o8 h, fun _ => hQ, fun c => absurd rfl c⟩
theorem c_inlined (h : y_I L xs 292 287 M) (x y z : Int32) (hQ : Q (-1) M) : w_Mill_inlined 8 x y z M Q := by
  unfold w_Mill_inlined
  rw [x_i8_4 h]
  exact ⟨x_o8 h, fun _ => hQ, fun c => absurd rfl c⟩
theorem c_profile (h : y_I L xs 292 287 M) (x y z : Int32) (hQ : Q (-1) M) : w_Mill_profile 8 x y z M Q := by
  unfold w_Mill_profile
  rw [x_r8_3 h, x_i204_7 h]
  exact ⟨x_o8 h, x_o204 h, fun _ => hQ, fun c => absurd rfl c⟩
theorem c_log (h : y_I L xs 292 287 M) (x y : Int32) (hQ : Q (-1) M) : w_Mill_log 8 x y M Q := by
  unfold w_Mill_log
  rw [x_r8_3 h, x_i204_4 h]
  exact ⟨fun _ => hQ, fun c => ⟨x_o8 h, x_o204 h, fun _ => hQ, fun c1 => absurd (Int32.not_lt.mp c) c1⟩⟩
/-- what total answers of a fresh one -/
def v_total (x : Int32) : Int32 := if x = 0 then 0 else if x = 1 then 0 else if x = 2 then 0 else if x = 3 then 0 else if x = 4 then 0 else if x = 5 then 0 else if x = 6 then 0 else if x = 7 then 0 else if x = 8 then 0 else if x = 9 then 0 else -1
theorem v_total0 {x : Int32} (hx : x = 0 ∨ x = 1 ∨ x = 2 ∨ x = 3 ∨ x = 4 ∨ x = 5 ∨ x = 6 ∨ x = 7 ∨ x = 8 ∨ x = 9) : v_total x = 0 := by
  rcases hx with rfl | rfl | rfl | rfl | rfl | rfl | rfl | rfl | rfl | rfl <;> decide
theorem v_total1 {x : Int32} (h0 : ¬ x = 0) (h1 : ¬ x = 1) (h2 : ¬ x = 2) (h3 : ¬ x = 3) (h4 : ¬ x = 4) (h5 : ¬ x = 5) (h6 : ¬ x = 6) (h7 : ¬ x = 7) (h8 : ¬ x = 8) (h9 : ¬ x = 9) : v_total x = -1 := by
  unfold v_total
  rw [if_neg h0, if_neg h1, if_neg h2, if_neg h3, if_neg h4, if_neg h5, if_neg h6, if_neg h7, if_neg h8, if_neg h9]
theorem c_total (h : y_I L xs 292 287 M) (x : Int32) (hQ : Q (v_total x) M) : w_Mill_total 8 x M Q := by
  unfold w_Mill_total
  rw [x_r8_3 h, x_r204_0 h, x_r204_1 h, x_r204_2 h, x_i204_10 h, x_i204_11 h, x_i204_6 h, x_i205_0 h, x_i204_4 h, x_i220_1 h, x_i220_2 h, x_i225_7 h, x_i204_12 h, x_i220_0 h]
  have hz : (x = 0 ∨ x = 1 ∨ x = 2 ∨ x = 3 ∨ x = 4 ∨ x = 5 ∨ x = 6 ∨ x = 7 ∨ x = 8 ∨ x = 9) → Q 0 M := fun hx => by rw [v_total0 hx] at hQ; exact hQ
  have o8 := x_o8 h
  have o204 := x_o204 h
  have o205 := x_o205 h
  have o220 := x_o220 h
  have o225 := x_o225 h
  refine ⟨fun c => ⟨o8, o204, hz (by simp [c])⟩, fun c0 => ⟨fun c => ⟨o8, o204, hz (by simp [c])⟩, fun c1 => ⟨fun c => ⟨o8, o204, hz (by simp [c])⟩, fun c2 => ⟨fun c => ⟨o8, o204, o205, hz (by simp [c])⟩, fun c3 => ⟨fun c => ⟨o8, o204, hz (by simp [c])⟩, fun c4 => ⟨fun c => ⟨o8, o204, o220, hz (by simp [c])⟩, fun c5 => ⟨fun c => ⟨o8, o204, o220, hz (by simp [c])⟩, fun c6 => ⟨fun c => ⟨o8, o204, o225, hz (by simp [c])⟩, fun c7 => ⟨fun c => ⟨o8, o204, hz (by simp [c])⟩, fun c8 => ⟨fun c => ⟨o8, o204, o220, hz (by simp [c])⟩, fun c9 => ?_⟩⟩⟩⟩⟩⟩⟩⟩⟩⟩
  rw [v_total1 c0 c1 c2 c3 c4 c5 c6 c7 c8 c9] at hQ
  exact hQ
end CLO
