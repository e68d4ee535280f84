/-! methods together -/
theorem jmk_big : jmok 200 = true := by
  unfold jmok
  rw [show jmi 200 = (yX12_init, cX12_init, 1, 3, [2], [7029, 7028, 0, 1014], 0) from rfl]
  dsimp only
  simp only [Bool.and_eq_true]
  repeat' apply And.intro
  all_goals first | (exact decide_eq_true (show jwAt 7029 = _ from rfl)) | decide +kernel
theorem jmeth {mi : Nat} (h0 : 0 < mi) (h1 : mi < 372) : jmok mi = true := by
  have key : ∀ (k n : Nat), (List.range n).all (fun i => decide (k + i = 0) || decide (k + i = 200) || jmok (k + i)) = true → k ≤ mi → mi < k + n → jmok mi = true := by
    intro k n h h2 h3
    have h4 := List.all_eq_true.mp h (mi - k) (List.mem_range.mpr (by omega))
    rw [show k + (mi - k) = mi by omega] at h4
    rw [Bool.or_eq_true, Bool.or_eq_true] at h4
    rcases h4 with (h4 | h4) | h4
    · have := of_decide_eq_true h4
      omega
    · rw [show mi = 200 from of_decide_eq_true h4]; exact jmk_big
    · exact h4
  by_cases c0 : mi < 25
  · exact key 0 25 jmk_0 (by omega) (by omega)
  by_cases c1 : mi < 50
  · exact key 25 25 jmk_1 (by omega) (by omega)
  by_cases c2 : mi < 75
  · exact key 50 25 jmk_2 (by omega) (by omega)
  by_cases c3 : mi < 100
  · exact key 75 25 jmk_3 (by omega) (by omega)
  by_cases c4 : mi < 125
  · exact key 100 25 jmk_4 (by omega) (by omega)
  by_cases c5 : mi < 150
  · exact key 125 25 jmk_5 (by omega) (by omega)
  by_cases c6 : mi < 175
  · exact key 150 25 jmk_6 (by omega) (by omega)
  by_cases c7 : mi < 200
  · exact key 175 25 jmk_7 (by omega) (by omega)
  by_cases c8 : mi < 225
  · exact key 200 25 jmk_8 (by omega) (by omega)
  by_cases c9 : mi < 250
  · exact key 225 25 jmk_9 (by omega) (by omega)
  by_cases c10 : mi < 275
  · exact key 250 25 jmk_10 (by omega) (by omega)
  by_cases c11 : mi < 300
  · exact key 275 25 jmk_11 (by omega) (by omega)
  by_cases c12 : mi < 325
  · exact key 300 25 jmk_12 (by omega) (by omega)
  by_cases c13 : mi < 350
  · exact key 325 25 jmk_13 (by omega) (by omega)
  by_cases c14 : mi < 372
  · exact key 350 22 jmk_14 (by omega) (by omega)
  omega
