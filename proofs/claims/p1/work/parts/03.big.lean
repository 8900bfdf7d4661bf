/-- the words that every method is given -/
def e_big : List Cond := lw_tbl.filter goodWord
def e_in (w : Cond) : Bool := decide (w ∈ lw_tbl) && goodWord w
theorem e_in_big {w : Cond} (h : e_in w = true) : w ∈ e_big := by
  unfold e_in at h
  rw [Bool.and_eq_true, decide_eq_true_eq] at h
  exact List.mem_filter.mpr h
theorem e_big_good : GoodIn e_big e_big := fun w hw => ⟨hw, good_of_word (List.mem_filter.mp hw).2⟩
