theorem kp_step {i : Int32} {f f2 g g2 : Nat → Int32} (e : ∀ j9 : Nat, j9 < 2 → f j9 = g j9) (h : (i.toInt = 0 ∧ f2 = upd f 0 1) ∨ (i.toInt = 1 ∧ f2 = upd f 1 1) ∨ ((i.toInt < 0 ∨ 1 < i.toInt) ∧ f2 = f)) (k : (i.toInt = 0 ∧ g2 = upd g 0 1) ∨ (i.toInt = 1 ∧ g2 = upd g 1 1) ∨ ((i.toInt < 0 ∨ 1 < i.toInt) ∧ g2 = g)) : ∀ j9 : Nat, j9 < 2 → f2 j9 = g2 j9 := by
  intro j hj
  rcases h with ⟨h1, rfl⟩ | ⟨h1, rfl⟩ | ⟨h1, rfl⟩ <;> rcases k with ⟨k1, rfl⟩ | ⟨k1, rfl⟩ | ⟨k1, rfl⟩ <;> first | (exfalso; omega) | skip
  · by_cases q : j = 0
    · subst q; rw [pk_us, pk_us]
    · rw [pk_un q, pk_un q]; exact e j hj
  · by_cases q : j = 1
    · subst q; rw [pk_us, pk_us]
    · rw [pk_un q, pk_un q]; exact e j hj
  · exact e j hj
