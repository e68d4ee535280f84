/-! reading a formula: which word names a part -/
section PAI
variable {T : jT} {P tq : Nat} {tp : List Int} {fo md op : Nat}

theorem spWq_at0 {g : Int} {k : Nat} (h : spWd tp g k spW0 = true) : spWq tp g k = 0 := by
  unfold spWq
  rw [if_pos h]
theorem spWq_at1 {g : Int} {k : Nat} (h : spWd tp g k spW1 = true) : spWq tp g k = 1 := by
  unfold spWq
  rw [if_neg (show ¬ spWd tp g k spW0 = true by rw [spWd_no h (show spW1 ≠ spW0 by decide)]; decide), if_pos h]
theorem spWq_at2 {g : Int} {k : Nat} (h : spWd tp g k spW2 = true) : spWq tp g k = 2 := by
  unfold spWq
  rw [if_neg (show ¬ spWd tp g k spW0 = true by rw [spWd_no h (show spW2 ≠ spW0 by decide)]; decide), if_neg (show ¬ spWd tp g k spW1 = true by rw [spWd_no h (show spW2 ≠ spW1 by decide)]; decide), if_pos h]
theorem spWq_at3 {g : Int} {k : Nat} (h : spWd tp g k spW3 = true) : spWq tp g k = 3 := by
  unfold spWq
  rw [if_neg (show ¬ spWd tp g k spW0 = true by rw [spWd_no h (show spW3 ≠ spW0 by decide)]; decide), if_neg (show ¬ spWd tp g k spW1 = true by rw [spWd_no h (show spW3 ≠ spW1 by decide)]; decide), if_neg (show ¬ spWd tp g k spW2 = true by rw [spWd_no h (show spW3 ≠ spW2 by decide)]; decide), if_pos h]
theorem spWq_at4 {g : Int} {k : Nat} (h : spWd tp g k spW4 = true) : spWq tp g k = 4 := by
  unfold spWq
  rw [if_neg (show ¬ spWd tp g k spW0 = true by rw [spWd_no h (show spW4 ≠ spW0 by decide)]; decide), if_neg (show ¬ spWd tp g k spW1 = true by rw [spWd_no h (show spW4 ≠ spW1 by decide)]; decide), if_neg (show ¬ spWd tp g k spW2 = true by rw [spWd_no h (show spW4 ≠ spW2 by decide)]; decide), if_neg (show ¬ spWd tp g k spW3 = true by rw [spWd_no h (show spW4 ≠ spW3 by decide)]; decide), if_pos h]
theorem spWq_at5 {g : Int} {k : Nat} (h : spWd tp g k spW5 = true) : spWq tp g k = 5 := by
  unfold spWq
  rw [if_neg (show ¬ spWd tp g k spW0 = true by rw [spWd_no h (show spW5 ≠ spW0 by decide)]; decide), if_neg (show ¬ spWd tp g k spW1 = true by rw [spWd_no h (show spW5 ≠ spW1 by decide)]; decide), if_neg (show ¬ spWd tp g k spW2 = true by rw [spWd_no h (show spW5 ≠ spW2 by decide)]; decide), if_neg (show ¬ spWd tp g k spW3 = true by rw [spWd_no h (show spW5 ≠ spW3 by decide)]; decide), if_neg (show ¬ spWd tp g k spW4 = true by rw [spWd_no h (show spW5 ≠ spW4 by decide)]; decide), if_pos h]
theorem spWq_at6 {g : Int} {k : Nat} (h : spWd tp g k spW6 = true) : spWq tp g k = 6 := by
  unfold spWq
  rw [if_neg (show ¬ spWd tp g k spW0 = true by rw [spWd_no h (show spW6 ≠ spW0 by decide)]; decide), if_neg (show ¬ spWd tp g k spW1 = true by rw [spWd_no h (show spW6 ≠ spW1 by decide)]; decide), if_neg (show ¬ spWd tp g k spW2 = true by rw [spWd_no h (show spW6 ≠ spW2 by decide)]; decide), if_neg (show ¬ spWd tp g k spW3 = true by rw [spWd_no h (show spW6 ≠ spW3 by decide)]; decide), if_neg (show ¬ spWd tp g k spW4 = true by rw [spWd_no h (show spW6 ≠ spW4 by decide)]; decide), if_neg (show ¬ spWd tp g k spW5 = true by rw [spWd_no h (show spW6 ≠ spW5 by decide)]; decide), if_pos h]
theorem spWq_at7 {g : Int} {k : Nat} (h : spWd tp g k spW7 = true) : spWq tp g k = 7 := by
  unfold spWq
  rw [if_neg (show ¬ spWd tp g k spW0 = true by rw [spWd_no h (show spW7 ≠ spW0 by decide)]; decide), if_neg (show ¬ spWd tp g k spW1 = true by rw [spWd_no h (show spW7 ≠ spW1 by decide)]; decide), if_neg (show ¬ spWd tp g k spW2 = true by rw [spWd_no h (show spW7 ≠ spW2 by decide)]; decide), if_neg (show ¬ spWd tp g k spW3 = true by rw [spWd_no h (show spW7 ≠ spW3 by decide)]; decide), if_neg (show ¬ spWd tp g k spW4 = true by rw [spWd_no h (show spW7 ≠ spW4 by decide)]; decide), if_neg (show ¬ spWd tp g k spW5 = true by rw [spWd_no h (show spW7 ≠ spW5 by decide)]; decide), if_neg (show ¬ spWd tp g k spW6 = true by rw [spWd_no h (show spW7 ≠ spW6 by decide)]; decide), if_pos h]
theorem spWq_at8 {g : Int} {k : Nat} (h : spWd tp g k spW8 = true) : spWq tp g k = 8 := by
  unfold spWq
  rw [if_neg (show ¬ spWd tp g k spW0 = true by rw [spWd_no h (show spW8 ≠ spW0 by decide)]; decide), if_neg (show ¬ spWd tp g k spW1 = true by rw [spWd_no h (show spW8 ≠ spW1 by decide)]; decide), if_neg (show ¬ spWd tp g k spW2 = true by rw [spWd_no h (show spW8 ≠ spW2 by decide)]; decide), if_neg (show ¬ spWd tp g k spW3 = true by rw [spWd_no h (show spW8 ≠ spW3 by decide)]; decide), if_neg (show ¬ spWd tp g k spW4 = true by rw [spWd_no h (show spW8 ≠ spW4 by decide)]; decide), if_neg (show ¬ spWd tp g k spW5 = true by rw [spWd_no h (show spW8 ≠ spW5 by decide)]; decide), if_neg (show ¬ spWd tp g k spW6 = true by rw [spWd_no h (show spW8 ≠ spW6 by decide)]; decide), if_neg (show ¬ spWd tp g k spW7 = true by rw [spWd_no h (show spW8 ≠ spW7 by decide)]; decide), if_pos h]
theorem spWq_at9 {g : Int} {k : Nat} (h : spWd tp g k spW9 = true) : spWq tp g k = 9 := by
  unfold spWq
  rw [if_neg (show ¬ spWd tp g k spW0 = true by rw [spWd_no h (show spW9 ≠ spW0 by decide)]; decide), if_neg (show ¬ spWd tp g k spW1 = true by rw [spWd_no h (show spW9 ≠ spW1 by decide)]; decide), if_neg (show ¬ spWd tp g k spW2 = true by rw [spWd_no h (show spW9 ≠ spW2 by decide)]; decide), if_neg (show ¬ spWd tp g k spW3 = true by rw [spWd_no h (show spW9 ≠ spW3 by decide)]; decide), if_neg (show ¬ spWd tp g k spW4 = true by rw [spWd_no h (show spW9 ≠ spW4 by decide)]; decide), if_neg (show ¬ spWd tp g k spW5 = true by rw [spWd_no h (show spW9 ≠ spW5 by decide)]; decide), if_neg (show ¬ spWd tp g k spW6 = true by rw [spWd_no h (show spW9 ≠ spW6 by decide)]; decide), if_neg (show ¬ spWd tp g k spW7 = true by rw [spWd_no h (show spW9 ≠ spW7 by decide)]; decide), if_neg (show ¬ spWd tp g k spW8 = true by rw [spWd_no h (show spW9 ≠ spW8 by decide)]; decide), if_pos h]
theorem spWq_at10 {g : Int} {k : Nat} (h : spWd tp g k spW10 = true) : spWq tp g k = 10 := by
  unfold spWq
  rw [if_neg (show ¬ spWd tp g k spW0 = true by rw [spWd_no h (show spW10 ≠ spW0 by decide)]; decide), if_neg (show ¬ spWd tp g k spW1 = true by rw [spWd_no h (show spW10 ≠ spW1 by decide)]; decide), if_neg (show ¬ spWd tp g k spW2 = true by rw [spWd_no h (show spW10 ≠ spW2 by decide)]; decide), if_neg (show ¬ spWd tp g k spW3 = true by rw [spWd_no h (show spW10 ≠ spW3 by decide)]; decide), if_neg (show ¬ spWd tp g k spW4 = true by rw [spWd_no h (show spW10 ≠ spW4 by decide)]; decide), if_neg (show ¬ spWd tp g k spW5 = true by rw [spWd_no h (show spW10 ≠ spW5 by decide)]; decide), if_neg (show ¬ spWd tp g k spW6 = true by rw [spWd_no h (show spW10 ≠ spW6 by decide)]; decide), if_neg (show ¬ spWd tp g k spW7 = true by rw [spWd_no h (show spW10 ≠ spW7 by decide)]; decide), if_neg (show ¬ spWd tp g k spW8 = true by rw [spWd_no h (show spW10 ≠ spW8 by decide)]; decide), if_neg (show ¬ spWd tp g k spW9 = true by rw [spWd_no h (show spW10 ≠ spW9 by decide)]; decide), if_pos h]
theorem spWq_inv0 {g : Int} {k : Nat} (h : spWq tp g k = 0) : spWd tp g k spW0 = true := by
  by_cases c1 : spWd tp g k spW1 = true
  · rw [spWq_at1 c1] at h; exact absurd h (by decide)
  by_cases c2 : spWd tp g k spW2 = true
  · rw [spWq_at2 c2] at h; exact absurd h (by decide)
  by_cases c3 : spWd tp g k spW3 = true
  · rw [spWq_at3 c3] at h; exact absurd h (by decide)
  by_cases c4 : spWd tp g k spW4 = true
  · rw [spWq_at4 c4] at h; exact absurd h (by decide)
  by_cases c5 : spWd tp g k spW5 = true
  · rw [spWq_at5 c5] at h; exact absurd h (by decide)
  by_cases c6 : spWd tp g k spW6 = true
  · rw [spWq_at6 c6] at h; exact absurd h (by decide)
  by_cases c7 : spWd tp g k spW7 = true
  · rw [spWq_at7 c7] at h; exact absurd h (by decide)
  by_cases c8 : spWd tp g k spW8 = true
  · rw [spWq_at8 c8] at h; exact absurd h (by decide)
  by_cases c9 : spWd tp g k spW9 = true
  · rw [spWq_at9 c9] at h; exact absurd h (by decide)
  by_cases c10 : spWd tp g k spW10 = true
  · rw [spWq_at10 c10] at h; exact absurd h (by decide)
  by_cases c : spWd tp g k spW0 = true
  · exact c
  exfalso
  unfold spWq at h
  rw [if_neg c, if_neg c1, if_neg c2, if_neg c3, if_neg c4, if_neg c5, if_neg c6, if_neg c7, if_neg c8, if_neg c9, if_neg c10] at h
  exact absurd h (by decide)
theorem spWq_inv1 {g : Int} {k : Nat} (h : spWq tp g k = 1) : spWd tp g k spW1 = true := by
  by_cases c0 : spWd tp g k spW0 = true
  · rw [spWq_at0 c0] at h; exact absurd h (by decide)
  by_cases c2 : spWd tp g k spW2 = true
  · rw [spWq_at2 c2] at h; exact absurd h (by decide)
  by_cases c3 : spWd tp g k spW3 = true
  · rw [spWq_at3 c3] at h; exact absurd h (by decide)
  by_cases c4 : spWd tp g k spW4 = true
  · rw [spWq_at4 c4] at h; exact absurd h (by decide)
  by_cases c5 : spWd tp g k spW5 = true
  · rw [spWq_at5 c5] at h; exact absurd h (by decide)
  by_cases c6 : spWd tp g k spW6 = true
  · rw [spWq_at6 c6] at h; exact absurd h (by decide)
  by_cases c7 : spWd tp g k spW7 = true
  · rw [spWq_at7 c7] at h; exact absurd h (by decide)
  by_cases c8 : spWd tp g k spW8 = true
  · rw [spWq_at8 c8] at h; exact absurd h (by decide)
  by_cases c9 : spWd tp g k spW9 = true
  · rw [spWq_at9 c9] at h; exact absurd h (by decide)
  by_cases c10 : spWd tp g k spW10 = true
  · rw [spWq_at10 c10] at h; exact absurd h (by decide)
  by_cases c : spWd tp g k spW1 = true
  · exact c
  exfalso
  unfold spWq at h
  rw [if_neg c0, if_neg c, if_neg c2, if_neg c3, if_neg c4, if_neg c5, if_neg c6, if_neg c7, if_neg c8, if_neg c9, if_neg c10] at h
  exact absurd h (by decide)
theorem spWq_inv2 {g : Int} {k : Nat} (h : spWq tp g k = 2) : spWd tp g k spW2 = true := by
  by_cases c0 : spWd tp g k spW0 = true
  · rw [spWq_at0 c0] at h; exact absurd h (by decide)
  by_cases c1 : spWd tp g k spW1 = true
  · rw [spWq_at1 c1] at h; exact absurd h (by decide)
  by_cases c3 : spWd tp g k spW3 = true
  · rw [spWq_at3 c3] at h; exact absurd h (by decide)
  by_cases c4 : spWd tp g k spW4 = true
  · rw [spWq_at4 c4] at h; exact absurd h (by decide)
  by_cases c5 : spWd tp g k spW5 = true
  · rw [spWq_at5 c5] at h; exact absurd h (by decide)
  by_cases c6 : spWd tp g k spW6 = true
  · rw [spWq_at6 c6] at h; exact absurd h (by decide)
  by_cases c7 : spWd tp g k spW7 = true
  · rw [spWq_at7 c7] at h; exact absurd h (by decide)
  by_cases c8 : spWd tp g k spW8 = true
  · rw [spWq_at8 c8] at h; exact absurd h (by decide)
  by_cases c9 : spWd tp g k spW9 = true
  · rw [spWq_at9 c9] at h; exact absurd h (by decide)
  by_cases c10 : spWd tp g k spW10 = true
  · rw [spWq_at10 c10] at h; exact absurd h (by decide)
  by_cases c : spWd tp g k spW2 = true
  · exact c
  exfalso
  unfold spWq at h
  rw [if_neg c0, if_neg c1, if_neg c, if_neg c3, if_neg c4, if_neg c5, if_neg c6, if_neg c7, if_neg c8, if_neg c9, if_neg c10] at h
  exact absurd h (by decide)
theorem spWq_inv3 {g : Int} {k : Nat} (h : spWq tp g k = 3) : spWd tp g k spW3 = true := by
  by_cases c0 : spWd tp g k spW0 = true
  · rw [spWq_at0 c0] at h; exact absurd h (by decide)
  by_cases c1 : spWd tp g k spW1 = true
  · rw [spWq_at1 c1] at h; exact absurd h (by decide)
  by_cases c2 : spWd tp g k spW2 = true
  · rw [spWq_at2 c2] at h; exact absurd h (by decide)
  by_cases c4 : spWd tp g k spW4 = true
  · rw [spWq_at4 c4] at h; exact absurd h (by decide)
  by_cases c5 : spWd tp g k spW5 = true
  · rw [spWq_at5 c5] at h; exact absurd h (by decide)
  by_cases c6 : spWd tp g k spW6 = true
  · rw [spWq_at6 c6] at h; exact absurd h (by decide)
  by_cases c7 : spWd tp g k spW7 = true
  · rw [spWq_at7 c7] at h; exact absurd h (by decide)
  by_cases c8 : spWd tp g k spW8 = true
  · rw [spWq_at8 c8] at h; exact absurd h (by decide)
  by_cases c9 : spWd tp g k spW9 = true
  · rw [spWq_at9 c9] at h; exact absurd h (by decide)
  by_cases c10 : spWd tp g k spW10 = true
  · rw [spWq_at10 c10] at h; exact absurd h (by decide)
  by_cases c : spWd tp g k spW3 = true
  · exact c
  exfalso
  unfold spWq at h
  rw [if_neg c0, if_neg c1, if_neg c2, if_neg c, if_neg c4, if_neg c5, if_neg c6, if_neg c7, if_neg c8, if_neg c9, if_neg c10] at h
  exact absurd h (by decide)
theorem spWq_inv4 {g : Int} {k : Nat} (h : spWq tp g k = 4) : spWd tp g k spW4 = true := by
  by_cases c0 : spWd tp g k spW0 = true
  · rw [spWq_at0 c0] at h; exact absurd h (by decide)
  by_cases c1 : spWd tp g k spW1 = true
  · rw [spWq_at1 c1] at h; exact absurd h (by decide)
  by_cases c2 : spWd tp g k spW2 = true
  · rw [spWq_at2 c2] at h; exact absurd h (by decide)
  by_cases c3 : spWd tp g k spW3 = true
  · rw [spWq_at3 c3] at h; exact absurd h (by decide)
  by_cases c5 : spWd tp g k spW5 = true
  · rw [spWq_at5 c5] at h; exact absurd h (by decide)
  by_cases c6 : spWd tp g k spW6 = true
  · rw [spWq_at6 c6] at h; exact absurd h (by decide)
  by_cases c7 : spWd tp g k spW7 = true
  · rw [spWq_at7 c7] at h; exact absurd h (by decide)
  by_cases c8 : spWd tp g k spW8 = true
  · rw [spWq_at8 c8] at h; exact absurd h (by decide)
  by_cases c9 : spWd tp g k spW9 = true
  · rw [spWq_at9 c9] at h; exact absurd h (by decide)
  by_cases c10 : spWd tp g k spW10 = true
  · rw [spWq_at10 c10] at h; exact absurd h (by decide)
  by_cases c : spWd tp g k spW4 = true
  · exact c
  exfalso
  unfold spWq at h
  rw [if_neg c0, if_neg c1, if_neg c2, if_neg c3, if_neg c, if_neg c5, if_neg c6, if_neg c7, if_neg c8, if_neg c9, if_neg c10] at h
  exact absurd h (by decide)
theorem spWq_inv5 {g : Int} {k : Nat} (h : spWq tp g k = 5) : spWd tp g k spW5 = true := by
  by_cases c0 : spWd tp g k spW0 = true
  · rw [spWq_at0 c0] at h; exact absurd h (by decide)
  by_cases c1 : spWd tp g k spW1 = true
  · rw [spWq_at1 c1] at h; exact absurd h (by decide)
  by_cases c2 : spWd tp g k spW2 = true
  · rw [spWq_at2 c2] at h; exact absurd h (by decide)
  by_cases c3 : spWd tp g k spW3 = true
  · rw [spWq_at3 c3] at h; exact absurd h (by decide)
  by_cases c4 : spWd tp g k spW4 = true
  · rw [spWq_at4 c4] at h; exact absurd h (by decide)
  by_cases c6 : spWd tp g k spW6 = true
  · rw [spWq_at6 c6] at h; exact absurd h (by decide)
  by_cases c7 : spWd tp g k spW7 = true
  · rw [spWq_at7 c7] at h; exact absurd h (by decide)
  by_cases c8 : spWd tp g k spW8 = true
  · rw [spWq_at8 c8] at h; exact absurd h (by decide)
  by_cases c9 : spWd tp g k spW9 = true
  · rw [spWq_at9 c9] at h; exact absurd h (by decide)
  by_cases c10 : spWd tp g k spW10 = true
  · rw [spWq_at10 c10] at h; exact absurd h (by decide)
  by_cases c : spWd tp g k spW5 = true
  · exact c
  exfalso
  unfold spWq at h
  rw [if_neg c0, if_neg c1, if_neg c2, if_neg c3, if_neg c4, if_neg c, if_neg c6, if_neg c7, if_neg c8, if_neg c9, if_neg c10] at h
  exact absurd h (by decide)
theorem spWq_inv6 {g : Int} {k : Nat} (h : spWq tp g k = 6) : spWd tp g k spW6 = true := by
  by_cases c0 : spWd tp g k spW0 = true
  · rw [spWq_at0 c0] at h; exact absurd h (by decide)
  by_cases c1 : spWd tp g k spW1 = true
  · rw [spWq_at1 c1] at h; exact absurd h (by decide)
  by_cases c2 : spWd tp g k spW2 = true
  · rw [spWq_at2 c2] at h; exact absurd h (by decide)
  by_cases c3 : spWd tp g k spW3 = true
  · rw [spWq_at3 c3] at h; exact absurd h (by decide)
  by_cases c4 : spWd tp g k spW4 = true
  · rw [spWq_at4 c4] at h; exact absurd h (by decide)
  by_cases c5 : spWd tp g k spW5 = true
  · rw [spWq_at5 c5] at h; exact absurd h (by decide)
  by_cases c7 : spWd tp g k spW7 = true
  · rw [spWq_at7 c7] at h; exact absurd h (by decide)
  by_cases c8 : spWd tp g k spW8 = true
  · rw [spWq_at8 c8] at h; exact absurd h (by decide)
  by_cases c9 : spWd tp g k spW9 = true
  · rw [spWq_at9 c9] at h; exact absurd h (by decide)
  by_cases c10 : spWd tp g k spW10 = true
  · rw [spWq_at10 c10] at h; exact absurd h (by decide)
  by_cases c : spWd tp g k spW6 = true
  · exact c
  exfalso
  unfold spWq at h
  rw [if_neg c0, if_neg c1, if_neg c2, if_neg c3, if_neg c4, if_neg c5, if_neg c, if_neg c7, if_neg c8, if_neg c9, if_neg c10] at h
  exact absurd h (by decide)
theorem spWq_inv7 {g : Int} {k : Nat} (h : spWq tp g k = 7) : spWd tp g k spW7 = true := by
  by_cases c0 : spWd tp g k spW0 = true
  · rw [spWq_at0 c0] at h; exact absurd h (by decide)
  by_cases c1 : spWd tp g k spW1 = true
  · rw [spWq_at1 c1] at h; exact absurd h (by decide)
  by_cases c2 : spWd tp g k spW2 = true
  · rw [spWq_at2 c2] at h; exact absurd h (by decide)
  by_cases c3 : spWd tp g k spW3 = true
  · rw [spWq_at3 c3] at h; exact absurd h (by decide)
  by_cases c4 : spWd tp g k spW4 = true
  · rw [spWq_at4 c4] at h; exact absurd h (by decide)
  by_cases c5 : spWd tp g k spW5 = true
  · rw [spWq_at5 c5] at h; exact absurd h (by decide)
  by_cases c6 : spWd tp g k spW6 = true
  · rw [spWq_at6 c6] at h; exact absurd h (by decide)
  by_cases c8 : spWd tp g k spW8 = true
  · rw [spWq_at8 c8] at h; exact absurd h (by decide)
  by_cases c9 : spWd tp g k spW9 = true
  · rw [spWq_at9 c9] at h; exact absurd h (by decide)
  by_cases c10 : spWd tp g k spW10 = true
  · rw [spWq_at10 c10] at h; exact absurd h (by decide)
  by_cases c : spWd tp g k spW7 = true
  · exact c
  exfalso
  unfold spWq at h
  rw [if_neg c0, if_neg c1, if_neg c2, if_neg c3, if_neg c4, if_neg c5, if_neg c6, if_neg c, if_neg c8, if_neg c9, if_neg c10] at h
  exact absurd h (by decide)
theorem spWq_inv8 {g : Int} {k : Nat} (h : spWq tp g k = 8) : spWd tp g k spW8 = true := by
  by_cases c0 : spWd tp g k spW0 = true
  · rw [spWq_at0 c0] at h; exact absurd h (by decide)
  by_cases c1 : spWd tp g k spW1 = true
  · rw [spWq_at1 c1] at h; exact absurd h (by decide)
  by_cases c2 : spWd tp g k spW2 = true
  · rw [spWq_at2 c2] at h; exact absurd h (by decide)
  by_cases c3 : spWd tp g k spW3 = true
  · rw [spWq_at3 c3] at h; exact absurd h (by decide)
  by_cases c4 : spWd tp g k spW4 = true
  · rw [spWq_at4 c4] at h; exact absurd h (by decide)
  by_cases c5 : spWd tp g k spW5 = true
  · rw [spWq_at5 c5] at h; exact absurd h (by decide)
  by_cases c6 : spWd tp g k spW6 = true
  · rw [spWq_at6 c6] at h; exact absurd h (by decide)
  by_cases c7 : spWd tp g k spW7 = true
  · rw [spWq_at7 c7] at h; exact absurd h (by decide)
  by_cases c9 : spWd tp g k spW9 = true
  · rw [spWq_at9 c9] at h; exact absurd h (by decide)
  by_cases c10 : spWd tp g k spW10 = true
  · rw [spWq_at10 c10] at h; exact absurd h (by decide)
  by_cases c : spWd tp g k spW8 = true
  · exact c
  exfalso
  unfold spWq at h
  rw [if_neg c0, if_neg c1, if_neg c2, if_neg c3, if_neg c4, if_neg c5, if_neg c6, if_neg c7, if_neg c, if_neg c9, if_neg c10] at h
  exact absurd h (by decide)
theorem spWq_inv9 {g : Int} {k : Nat} (h : spWq tp g k = 9) : spWd tp g k spW9 = true := by
  by_cases c0 : spWd tp g k spW0 = true
  · rw [spWq_at0 c0] at h; exact absurd h (by decide)
  by_cases c1 : spWd tp g k spW1 = true
  · rw [spWq_at1 c1] at h; exact absurd h (by decide)
  by_cases c2 : spWd tp g k spW2 = true
  · rw [spWq_at2 c2] at h; exact absurd h (by decide)
  by_cases c3 : spWd tp g k spW3 = true
  · rw [spWq_at3 c3] at h; exact absurd h (by decide)
  by_cases c4 : spWd tp g k spW4 = true
  · rw [spWq_at4 c4] at h; exact absurd h (by decide)
  by_cases c5 : spWd tp g k spW5 = true
  · rw [spWq_at5 c5] at h; exact absurd h (by decide)
  by_cases c6 : spWd tp g k spW6 = true
  · rw [spWq_at6 c6] at h; exact absurd h (by decide)
  by_cases c7 : spWd tp g k spW7 = true
  · rw [spWq_at7 c7] at h; exact absurd h (by decide)
  by_cases c8 : spWd tp g k spW8 = true
  · rw [spWq_at8 c8] at h; exact absurd h (by decide)
  by_cases c10 : spWd tp g k spW10 = true
  · rw [spWq_at10 c10] at h; exact absurd h (by decide)
  by_cases c : spWd tp g k spW9 = true
  · exact c
  exfalso
  unfold spWq at h
  rw [if_neg c0, if_neg c1, if_neg c2, if_neg c3, if_neg c4, if_neg c5, if_neg c6, if_neg c7, if_neg c8, if_neg c, if_neg c10] at h
  exact absurd h (by decide)
theorem spWq_inv10 {g : Int} {k : Nat} (h : spWq tp g k = 10) : spWd tp g k spW10 = true := by
  by_cases c0 : spWd tp g k spW0 = true
  · rw [spWq_at0 c0] at h; exact absurd h (by decide)
  by_cases c1 : spWd tp g k spW1 = true
  · rw [spWq_at1 c1] at h; exact absurd h (by decide)
  by_cases c2 : spWd tp g k spW2 = true
  · rw [spWq_at2 c2] at h; exact absurd h (by decide)
  by_cases c3 : spWd tp g k spW3 = true
  · rw [spWq_at3 c3] at h; exact absurd h (by decide)
  by_cases c4 : spWd tp g k spW4 = true
  · rw [spWq_at4 c4] at h; exact absurd h (by decide)
  by_cases c5 : spWd tp g k spW5 = true
  · rw [spWq_at5 c5] at h; exact absurd h (by decide)
  by_cases c6 : spWd tp g k spW6 = true
  · rw [spWq_at6 c6] at h; exact absurd h (by decide)
  by_cases c7 : spWd tp g k spW7 = true
  · rw [spWq_at7 c7] at h; exact absurd h (by decide)
  by_cases c8 : spWd tp g k spW8 = true
  · rw [spWq_at8 c8] at h; exact absurd h (by decide)
  by_cases c9 : spWd tp g k spW9 = true
  · rw [spWq_at9 c9] at h; exact absurd h (by decide)
  by_cases c : spWd tp g k spW10 = true
  · exact c
  exfalso
  unfold spWq at h
  rw [if_neg c0, if_neg c1, if_neg c2, if_neg c3, if_neg c4, if_neg c5, if_neg c6, if_neg c7, if_neg c8, if_neg c9, if_neg c] at h
  exact absurd h (by decide)
theorem c_fn0 {h : jH} {k : Nat} {g : Int} {K : List Int} (hs : PSt T h P tq tp fo 0 k g op K) : ∃ h' v, Pa_factNamed T h P = some (v, h') ∧ PFg P fo h h' ∧ ((spWq tp g k = 0 ∨ spWq tp g k = 1 ∨ spWq tp g k = 2 ∨ spWq tp g k = 3 ∨ spWq tp g k = 4) → v = spWq tp g k ∧ PSt T h' P tq tp fo 0 (spPk tp (spLe tp k)) (spLe tp k : Int) op K) ∧ (¬ (spWq tp g k = 0 ∨ spWq tp g k = 1 ∨ spWq tp g k = 2 ∨ spWq tp g k = 3 ∨ spWq tp g k = 4) → v = -1 ∧ PSt T h' P tq tp fo 0 k g op K) := by
  have h10 : h P 10 = 0 := hs.2.1.1.2.2.1
  unfold Pa_factNamed Pa_factNamed_p13 Pa_factNamed_p40 Pa_factNamed_p55 Pa_factNamed_p73 Pa_factNamed_p91 Pa_factNamed_p106 Pa_factNamed_p122 Pa_factNamed_p138 Pa_factNamed_p156
  rw [h10, if_neg (by decide)]
  obtain ⟨h1, e1, f1, t1, n1⟩ := PSt.word (w := spW0) (by decide) hs
  rw [show Pa_word T h P [116, 105, 99, 107] = _ from e1, Option.bind_some]
  by_cases c1 : spWd tp g k spW0 = true
  · rw [if_pos c1]
    dsimp only
    rw [if_neg (show ¬ (1 : Int) = 0 by decide)]
    have hw := spWq_at0 c1
    have hle := (spWd_len c1).1
    have hst := t1 c1
    rw [← hle] at hst
    exact ⟨h1, _, rfl, f1, fun _ => ⟨hw.symm, hst⟩, fun hn => absurd (Or.inl hw) hn⟩
  rw [if_neg c1]
  dsimp only
  rw [if_pos (show (0 : Int) = 0 from rfl)]
  have s1 := (n1 (Bool.eq_false_iff.mpr c1)).1
  rw [if_pos (show (0 : Int) = 0 from rfl)]
  obtain ⟨h2, e2, f2, t2, n2⟩ := PSt.word (w := spW1) (by decide) s1
  rw [show Pa_word T h1 P [114, 101, 99, 111, 114, 100, 115] = _ from e2, Option.bind_some]
  by_cases c2 : spWd tp g k spW1 = true
  · rw [if_pos c2]
    dsimp only
    rw [if_neg (show ¬ (1 : Int) = 0 by decide)]
    have hw := spWq_at1 c2
    have hle := (spWd_len c2).1
    have hst := t2 c2
    rw [← hle] at hst
    exact ⟨h2, _, rfl, (f1.tr f2), fun _ => ⟨hw.symm, hst⟩, fun hn => absurd (Or.inr (Or.inl hw)) hn⟩
  rw [if_neg c2]
  dsimp only
  rw [if_pos (show (0 : Int) = 0 from rfl)]
  have s2 := (n2 (Bool.eq_false_iff.mpr c2)).1
  rw [if_pos (show (0 : Int) = 0 from rfl)]
  obtain ⟨h3, e3, f3, t3, n3⟩ := PSt.word (w := spW2) (by decide) s2
  rw [show Pa_word T h2 P [112, 97, 121, 108, 111, 97, 100] = _ from e3, Option.bind_some]
  by_cases c3 : spWd tp g k spW2 = true
  · rw [if_pos c3]
    dsimp only
    rw [if_neg (show ¬ (1 : Int) = 0 by decide)]
    have hw := spWq_at2 c3
    have hle := (spWd_len c3).1
    have hst := t3 c3
    rw [← hle] at hst
    exact ⟨h3, _, rfl, ((f1.tr f2).tr f3), fun _ => ⟨hw.symm, hst⟩, fun hn => absurd (Or.inr (Or.inr (Or.inl hw))) hn⟩
  rw [if_neg c3]
  dsimp only
  rw [if_pos (show (0 : Int) = 0 from rfl)]
  have s3 := (n3 (Bool.eq_false_iff.mpr c3)).1
  have g3 : h3 P 10 = 0 := s3.2.1.1.2.2.1
  rw [if_pos g3]
  obtain ⟨h4, e4, f4, t4, n4⟩ := PSt.word (w := spW3) (by decide) s3
  rw [show Pa_word T h3 P [97, 103, 101] = _ from e4, Option.bind_some]
  by_cases c4 : spWd tp g k spW3 = true
  · rw [if_pos c4]
    dsimp only
    rw [if_neg (show ¬ (1 : Int) = 0 by decide)]
    have hw := spWq_at3 c4
    have hle := (spWd_len c4).1
    have hst := t4 c4
    rw [← hle] at hst
    exact ⟨h4, _, rfl, (((f1.tr f2).tr f3).tr f4), fun _ => ⟨hw.symm, hst⟩, fun hn => absurd (Or.inr (Or.inr (Or.inr (Or.inl hw)))) hn⟩
  rw [if_neg c4]
  dsimp only
  rw [if_pos (show (0 : Int) = 0 from rfl)]
  have s4 := (n4 (Bool.eq_false_iff.mpr c4)).1
  have g4 : h4 P 10 = 0 := s4.2.1.1.2.2.1
  rw [if_pos g4]
  obtain ⟨h5, e5, f5, t5, n5⟩ := PSt.word (w := spW4) (by decide) s4
  rw [show Pa_word T h4 P [119, 97, 105, 116, 101, 114, 115] = _ from e5, Option.bind_some]
  by_cases c5 : spWd tp g k spW4 = true
  · rw [if_pos c5]
    dsimp only
    rw [if_neg (show ¬ (1 : Int) = 0 by decide)]
    have hw := spWq_at4 c5
    have hle := (spWd_len c5).1
    have hst := t5 c5
    rw [← hle] at hst
    exact ⟨h5, _, rfl, ((((f1.tr f2).tr f3).tr f4).tr f5), fun _ => ⟨hw.symm, hst⟩, fun hn => absurd (Or.inr (Or.inr (Or.inr (Or.inr (hw))))) hn⟩
  rw [if_neg c5]
  dsimp only
  rw [if_pos (show (0 : Int) = 0 from rfl)]
  have s5 := (n5 (Bool.eq_false_iff.mpr c5)).1
  rw [if_pos (show (0 : Int) = 0 from rfl), if_pos (show (0 : Int) = 0 from rfl), if_pos (show (0 : Int) = 0 from rfl), if_pos (show (0 : Int) = 0 from rfl)]
  refine ⟨h5, _, rfl, ((((f1.tr f2).tr f3).tr f4).tr f5), fun hn => ?_, fun _ => ⟨rfl, s5⟩⟩
  exfalso
  rcases hn with e | e | e | e | e
  · exact c1 (spWq_inv0 e)
  · exact c2 (spWq_inv1 e)
  · exact c3 (spWq_inv2 e)
  · exact c4 (spWq_inv3 e)
  · exact c5 (spWq_inv4 e)

theorem c_fn1 {h : jH} {k : Nat} {g : Int} {K : List Int} (hs : PSt T h P tq tp fo 1 k g op K) : ∃ h' v, Pa_factNamed T h P = some (v, h') ∧ PFg P fo h h' ∧ ((spWq tp g k = 0 ∨ spWq tp g k = 1 ∨ spWq tp g k = 2) → v = spWq tp g k ∧ PSt T h' P tq tp fo 1 (spPk tp (spLe tp k)) (spLe tp k : Int) op K) ∧ (¬ (spWq tp g k = 0 ∨ spWq tp g k = 1 ∨ spWq tp g k = 2) → v = -1 ∧ PSt T h' P tq tp fo 1 k g op K) := by
  have h10 : h P 10 = 1 := hs.2.1.1.2.2.1
  unfold Pa_factNamed Pa_factNamed_p13 Pa_factNamed_p40 Pa_factNamed_p55 Pa_factNamed_p73 Pa_factNamed_p91 Pa_factNamed_p106 Pa_factNamed_p122 Pa_factNamed_p138 Pa_factNamed_p156
  rw [h10, if_neg (by decide)]
  obtain ⟨h1, e1, f1, t1, n1⟩ := PSt.word (w := spW0) (by decide) hs
  rw [show Pa_word T h P [116, 105, 99, 107] = _ from e1, Option.bind_some]
  by_cases c1 : spWd tp g k spW0 = true
  · rw [if_pos c1]
    dsimp only
    rw [if_neg (show ¬ (1 : Int) = 0 by decide)]
    have hw := spWq_at0 c1
    have hle := (spWd_len c1).1
    have hst := t1 c1
    rw [← hle] at hst
    exact ⟨h1, _, rfl, f1, fun _ => ⟨hw.symm, hst⟩, fun hn => absurd (Or.inl hw) hn⟩
  rw [if_neg c1]
  dsimp only
  rw [if_pos (show (0 : Int) = 0 from rfl)]
  have s1 := (n1 (Bool.eq_false_iff.mpr c1)).1
  rw [if_pos (show (0 : Int) = 0 from rfl)]
  obtain ⟨h2, e2, f2, t2, n2⟩ := PSt.word (w := spW1) (by decide) s1
  rw [show Pa_word T h1 P [114, 101, 99, 111, 114, 100, 115] = _ from e2, Option.bind_some]
  by_cases c2 : spWd tp g k spW1 = true
  · rw [if_pos c2]
    dsimp only
    rw [if_neg (show ¬ (1 : Int) = 0 by decide)]
    have hw := spWq_at1 c2
    have hle := (spWd_len c2).1
    have hst := t2 c2
    rw [← hle] at hst
    exact ⟨h2, _, rfl, (f1.tr f2), fun _ => ⟨hw.symm, hst⟩, fun hn => absurd (Or.inr (Or.inl hw)) hn⟩
  rw [if_neg c2]
  dsimp only
  rw [if_pos (show (0 : Int) = 0 from rfl)]
  have s2 := (n2 (Bool.eq_false_iff.mpr c2)).1
  rw [if_pos (show (0 : Int) = 0 from rfl)]
  obtain ⟨h3, e3, f3, t3, n3⟩ := PSt.word (w := spW2) (by decide) s2
  rw [show Pa_word T h2 P [112, 97, 121, 108, 111, 97, 100] = _ from e3, Option.bind_some]
  by_cases c3 : spWd tp g k spW2 = true
  · rw [if_pos c3]
    dsimp only
    rw [if_neg (show ¬ (1 : Int) = 0 by decide)]
    have hw := spWq_at2 c3
    have hle := (spWd_len c3).1
    have hst := t3 c3
    rw [← hle] at hst
    exact ⟨h3, _, rfl, ((f1.tr f2).tr f3), fun _ => ⟨hw.symm, hst⟩, fun hn => absurd (Or.inr (Or.inr (hw))) hn⟩
  rw [if_neg c3]
  dsimp only
  rw [if_pos (show (0 : Int) = 0 from rfl)]
  have s3 := (n3 (Bool.eq_false_iff.mpr c3)).1
  have g3 : h3 P 10 = 1 := s3.2.1.1.2.2.1
  rw [if_neg (show ¬ h3 P 10 = 0 by rw [g3]; decide), if_neg (show ¬ h3 P 10 = 0 by rw [g3]; decide), if_pos (show (0 : Int) = 0 from rfl), if_pos (show (0 : Int) = 0 from rfl), if_pos (show (0 : Int) = 0 from rfl), if_pos (show (0 : Int) = 0 from rfl)]
  refine ⟨h3, _, rfl, ((f1.tr f2).tr f3), fun hn => ?_, fun _ => ⟨rfl, s3⟩⟩
  exfalso
  rcases hn with e | e | e
  · exact c1 (spWq_inv0 e)
  · exact c2 (spWq_inv1 e)
  · exact c3 (spWq_inv2 e)

theorem c_fn2 {h : jH} {k : Nat} {g : Int} {K : List Int} (hs : PSt T h P tq tp fo 2 k g op K) : ∃ h' v, Pa_factNamed T h P = some (v, h') ∧ PFg P fo h h' ∧ ((spWq tp g k = 0 ∨ spWq tp g k = 5 ∨ spWq tp g k = 6 ∨ spWq tp g k = 7 ∨ spWq tp g k = 8) → v = spWq tp g k ∧ PSt T h' P tq tp fo 2 (spPk tp (spLe tp k)) (spLe tp k : Int) op K) ∧ (¬ (spWq tp g k = 0 ∨ spWq tp g k = 5 ∨ spWq tp g k = 6 ∨ spWq tp g k = 7 ∨ spWq tp g k = 8) → v = -1 ∧ PSt T h' P tq tp fo 2 k g op K) := by
  have h10 : h P 10 = 2 := hs.2.1.1.2.2.1
  unfold Pa_factNamed Pa_factNamed_p13 Pa_factNamed_p40 Pa_factNamed_p55 Pa_factNamed_p73 Pa_factNamed_p91 Pa_factNamed_p106 Pa_factNamed_p122 Pa_factNamed_p138 Pa_factNamed_p156
  rw [h10, if_pos rfl]
  obtain ⟨h1, e1, f1, t1, n1⟩ := PSt.word (w := spW0) (by decide) hs
  rw [show Pa_word T h P [116, 105, 99, 107] = _ from e1, Option.bind_some]
  by_cases c1 : spWd tp g k spW0 = true
  · rw [if_pos c1]
    dsimp only
    rw [if_neg (show ¬ (1 : Int) = 0 by decide)]
    have hw := spWq_at0 c1
    have hle := (spWd_len c1).1
    have hst := t1 c1
    rw [← hle] at hst
    exact ⟨h1, _, rfl, f1, fun _ => ⟨hw.symm, hst⟩, fun hn => absurd (Or.inl hw) hn⟩
  rw [if_neg c1]
  dsimp only
  rw [if_pos (show (0 : Int) = 0 from rfl)]
  have s1 := (n1 (Bool.eq_false_iff.mpr c1)).1
  have g1 : h1 P 10 = 2 := s1.2.1.1.2.2.1
  rw [if_neg (show ¬ (1 : Int) = 0 by decide), if_neg (show ¬ (1 : Int) = 0 by decide), if_neg (show ¬ h1 P 10 = 0 by rw [g1]; decide), if_neg (show ¬ h1 P 10 = 0 by rw [g1]; decide), if_neg (show ¬ (1 : Int) = 0 by decide)]
  obtain ⟨h2, e2, f2, t2, n2⟩ := PSt.word (w := spW5) (by decide) s1
  rw [show Pa_word T h1 P [110, 117, 109, 98, 101, 114] = _ from e2, Option.bind_some]
  by_cases c2 : spWd tp g k spW5 = true
  · rw [if_pos c2]
    dsimp only
    rw [if_neg (show ¬ (1 : Int) = 0 by decide)]
    have hw := spWq_at5 c2
    have hle := (spWd_len c2).1
    have hst := t2 c2
    rw [← hle] at hst
    exact ⟨h2, _, rfl, (f1.tr f2), fun _ => ⟨hw.symm, hst⟩, fun hn => absurd (Or.inr (Or.inl hw)) hn⟩
  rw [if_neg c2]
  dsimp only
  rw [if_pos (show (0 : Int) = 0 from rfl)]
  have s2 := (n2 (Bool.eq_false_iff.mpr c2)).1
  rw [if_neg (show ¬ (1 : Int) = 0 by decide)]
  obtain ⟨h3, e3, f3, t3, n3⟩ := PSt.word (w := spW6) (by decide) s2
  rw [show Pa_word T h2 P [115, 101, 114, 105, 97, 108] = _ from e3, Option.bind_some]
  by_cases c3 : spWd tp g k spW6 = true
  · rw [if_pos c3]
    dsimp only
    rw [if_neg (show ¬ (1 : Int) = 0 by decide)]
    have hw := spWq_at6 c3
    have hle := (spWd_len c3).1
    have hst := t3 c3
    rw [← hle] at hst
    exact ⟨h3, _, rfl, ((f1.tr f2).tr f3), fun _ => ⟨hw.symm, hst⟩, fun hn => absurd (Or.inr (Or.inr (Or.inl hw))) hn⟩
  rw [if_neg c3]
  dsimp only
  rw [if_pos (show (0 : Int) = 0 from rfl)]
  have s3 := (n3 (Bool.eq_false_iff.mpr c3)).1
  rw [if_neg (show ¬ (1 : Int) = 0 by decide)]
  obtain ⟨h4, e4, f4, t4, n4⟩ := PSt.word (w := spW7) (by decide) s3
  rw [show Pa_word T h3 P [102, 105, 114, 115, 116] = _ from e4, Option.bind_some]
  by_cases c4 : spWd tp g k spW7 = true
  · rw [if_pos c4]
    dsimp only
    rw [if_neg (show ¬ (1 : Int) = 0 by decide)]
    have hw := spWq_at7 c4
    have hle := (spWd_len c4).1
    have hst := t4 c4
    rw [← hle] at hst
    exact ⟨h4, _, rfl, (((f1.tr f2).tr f3).tr f4), fun _ => ⟨hw.symm, hst⟩, fun hn => absurd (Or.inr (Or.inr (Or.inr (Or.inl hw)))) hn⟩
  rw [if_neg c4]
  dsimp only
  rw [if_pos (show (0 : Int) = 0 from rfl)]
  have s4 := (n4 (Bool.eq_false_iff.mpr c4)).1
  rw [if_neg (show ¬ (1 : Int) = 0 by decide)]
  obtain ⟨h5, e5, f5, t5, n5⟩ := PSt.word (w := spW8) (by decide) s4
  rw [show Pa_word T h4 P [102, 114, 97, 109, 101, 115] = _ from e5, Option.bind_some]
  by_cases c5 : spWd tp g k spW8 = true
  · rw [if_pos c5]
    dsimp only
    rw [if_neg (show ¬ (1 : Int) = 0 by decide)]
    have hw := spWq_at8 c5
    have hle := (spWd_len c5).1
    have hst := t5 c5
    rw [← hle] at hst
    exact ⟨h5, _, rfl, ((((f1.tr f2).tr f3).tr f4).tr f5), fun _ => ⟨hw.symm, hst⟩, fun hn => absurd (Or.inr (Or.inr (Or.inr (Or.inr (hw))))) hn⟩
  rw [if_neg c5]
  dsimp only
  rw [if_pos (show (0 : Int) = 0 from rfl)]
  have s5 := (n5 (Bool.eq_false_iff.mpr c5)).1
  refine ⟨h5, _, rfl, ((((f1.tr f2).tr f3).tr f4).tr f5), fun hn => ?_, fun _ => ⟨rfl, s5⟩⟩
  exfalso
  rcases hn with e | e | e | e | e
  · exact c1 (spWq_inv0 e)
  · exact c2 (spWq_inv5 e)
  · exact c3 (spWq_inv6 e)
  · exact c4 (spWq_inv7 e)
  · exact c5 (spWq_inv8 e)

end PAI
