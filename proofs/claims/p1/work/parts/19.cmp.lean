theorem lc_val (x y : Int64) : (lg_cmp x y = 1 ∧ y.toInt < x.toInt) ∨ (lg_cmp x y = 0 ∧ x.toInt = y.toInt) ∨ (lg_cmp x y = -1 ∧ x.toInt < y.toInt) := by
  unfold lg_cmp
  simp only [gt_iff_lt, Int64.lt_iff_toInt_lt, ← Int64.toInt_inj]
  by_cases h1 : y.toInt < x.toInt
  · rw [if_pos h1]; exact Or.inl ⟨rfl, h1⟩
  · rw [if_neg h1]
    by_cases h2 : x.toInt = y.toInt
    · rw [if_pos h2]; exact Or.inr (Or.inl ⟨rfl, h2⟩)
    · rw [if_neg h2]; exact Or.inr (Or.inr ⟨rfl, by omega⟩)
theorem lltp {x y : Int64} (h : lg_cmp x y < 0) : x.toInt < y.toInt := by
  rcases lc_val x y with ⟨e, q⟩ | ⟨e, q⟩ | ⟨e, q⟩
  · rw [e] at h; exact absurd h (by decide)
  · rw [e] at h; exact absurd h (by decide)
  · exact q
theorem lltn {x y : Int64} (h : ¬ lg_cmp x y < 0) : y.toInt ≤ x.toInt := by
  rcases lc_val x y with ⟨e, q⟩ | ⟨e, q⟩ | ⟨e, q⟩
  · omega
  · omega
  · rw [e] at h; exact absurd (by decide) h
theorem lgtp {x y : Int64} (h : 0 < lg_cmp x y) : y.toInt < x.toInt := by
  rcases lc_val x y with ⟨e, q⟩ | ⟨e, q⟩ | ⟨e, q⟩
  · exact q
  · rw [e] at h; exact absurd h (by decide)
  · rw [e] at h; exact absurd h (by decide)
theorem lgtn {x y : Int64} (h : ¬ 0 < lg_cmp x y) : x.toInt ≤ y.toInt := by
  rcases lc_val x y with ⟨e, q⟩ | ⟨e, q⟩ | ⟨e, q⟩
  · rw [e] at h; exact absurd (by decide) h
  · omega
  · omega
theorem leqp {x y : Int64} (h : lg_cmp x y = 0) : x.toInt = y.toInt := by
  rcases lc_val x y with ⟨e, q⟩ | ⟨e, q⟩ | ⟨e, q⟩
  · rw [e] at h; exact absurd h (by decide)
  · exact q
  · rw [e] at h; exact absurd h (by decide)
theorem leqn {x y : Int64} (h : ¬ lg_cmp x y = 0) : x.toInt ≠ y.toInt := by
  rcases lc_val x y with ⟨e, q⟩ | ⟨e, q⟩ | ⟨e, q⟩
  · omega
  · exact absurd e h
  · omega
