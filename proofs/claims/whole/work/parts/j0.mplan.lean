/-! the reference's draft becomes the plan that stands -/
section MPN
variable {o : Nat}
theorem m_st7 : ∀ (r j : Nat) (h : jH), r + j = 5 → ∃ h', M_stands_L7 h o (j : Int) = M_stands_L34 h' o 0 ∧ (∀ z, z ≠ o + 28 → h' z = h z) ∧ (∀ i, j ≤ i → i < 5 → h' (o + 28) (5 + i) = h (o + 28) i) ∧ ∀ i, i < 5 + j → h' (o + 28) i = h (o + 28) i := by
  unfold M_stands_L7
  intro r
  induction r with
  | zero =>
    intro j h hr
    refine ⟨h, jloop_x ?_, fun _ _ => rfl, fun i h1 h2 => by omega, fun _ _ => rfl⟩
    show M_stands_B7 h o (j : Int) = _
    unfold M_stands_B7
    rw [if_neg (by omega)]
  | succ r ih =>
    intro j h hr
    obtain ⟨h1, hh1⟩ : ∃ h1 : jH, h1 = jup h (o + 28) (5 + j) (h (o + 28) j) := ⟨_, rfl⟩
    obtain ⟨h', e1, e2, e3, e4⟩ := ih (j + 1) h1 (by omega)
    refine ⟨h', (jloop_l (s' := ((((j + 1 : Nat)) : Int), h1)) ?_).trans e1, fun z hz => by rw [e2 z hz, hh1, jup_ne hz], fun i i1 i2 => ?_, fun i hi => by rw [e4 i (by omega), hh1, ju_ne (by omega)]⟩
    · show M_stands_B7 h o (j : Int) = _
      unfold M_stands_B7
      have k1 : ((j : Int)).toNat = j := by omega
      have k2 : (5 + (j : Int)).toNat = 5 + j := by omega
      rw [if_pos (by omega), k1, if_pos (by omega), pw (x := 5 + (j : Int)) (by omega) (by omega), k2, if_pos (by omega), pw (x := (j : Int) + 1) (by omega) (by omega), ← hh1]
      rfl
    · by_cases c : i = j
      · rw [e4 (5 + i) (by omega), hh1, c, ju_eq]
      · rw [e3 i (by omega) i2, hh1, ju_ne (by omega)]
theorem m_st34 : ∀ (r j : Nat) (h : jH), r + j = 2 → ∃ h', M_stands_L34 h o (j : Int) = M_stands_L75 h' o 0 ∧ (∀ z, z ≠ o + 30 → z ≠ o + 31 → h' z = h z) ∧ (∀ i, j ≤ i → i < 2 → h' (o + 30) (2 + i) = h (o + 30) i ∧ h' (o + 31) (2 + i) = h (o + 31) i) ∧ ∀ i, i < 2 + j → h' (o + 30) i = h (o + 30) i ∧ h' (o + 31) i = h (o + 31) i := by
  unfold M_stands_L34
  intro r
  induction r with
  | zero =>
    intro j h hr
    refine ⟨h, jloop_x ?_, fun _ _ _ => rfl, fun i h1 h2 => by omega, fun _ _ => ⟨rfl, rfl⟩⟩
    show M_stands_B34 h o (j : Int) = _
    unfold M_stands_B34
    rw [if_neg (by omega)]
  | succ r ih =>
    intro j h hr
    obtain ⟨h1, hh1⟩ : ∃ h1 : jH, h1 = jup (jup h (o + 30) (2 + j) (h (o + 30) j)) (o + 31) (2 + j) (h (o + 31) j) := ⟨_, rfl⟩
    have g30 : ∀ i, h1 (o + 30) i = (if i = 2 + j then h (o + 30) j else h (o + 30) i) := fun i => by rw [hh1, jup_ne (by omega), ju_if]
    have g31 : ∀ i, h1 (o + 31) i = (if i = 2 + j then h (o + 31) j else h (o + 31) i) := fun i => by rw [hh1, ju_if, jup_ne (by omega)]
    obtain ⟨h', e1, e2, e3, e4⟩ := ih (j + 1) h1 (by omega)
    refine ⟨h', (jloop_l (s' := ((((j + 1 : Nat)) : Int), h1)) ?_).trans e1, fun z z1 z2 => by rw [e2 z z1 z2, hh1, jup_ne z2, jup_ne z1], fun i i1 i2 => ?_, fun i hi => ⟨by rw [(e4 i (by omega)).1, g30, if_neg (by omega)], by rw [(e4 i (by omega)).2, g31, if_neg (by omega)]⟩⟩
    · show M_stands_B34 h o (j : Int) = _
      unfold M_stands_B34
      have k1 : ((j : Int)).toNat = j := by omega
      have k2 : (2 + (j : Int)).toNat = 2 + j := by omega
      have c2 : (0 : Int) ≤ 2 + (j : Int) ∧ 2 + j < 4 := by omega
      have c1 : (0 : Int) ≤ (j : Int) ∧ j < 4 := by omega
      rw [if_pos (by omega), k1, if_pos c1, pw (x := 2 + (j : Int)) (by omega) (by omega), k2, if_pos c2, if_pos c1, if_pos c2, pw (x := (j : Int) + 1) (by omega) (by omega), jup_ne (show o + 31 ≠ o + 30 by omega), ← hh1]
      rfl
    · by_cases c : i = j
      · rw [(e4 (2 + i) (by omega)).1, (e4 (2 + i) (by omega)).2, g30, g31, if_pos (by omega), if_pos (by omega), c]
        exact ⟨rfl, rfl⟩
      · obtain ⟨x1, x2⟩ := e3 i (by omega) i2
        rw [x1, x2, g30, g31, if_neg (by omega), if_neg (by omega)]
        exact ⟨rfl, rfl⟩
theorem m_st75 {n : Nat} (hn : n ≤ 1600) : ∀ (r j : Nat) (h : jH), r + j = n → h o 41 = (n : Int) → ∃ h', M_stands_L75 h o (j : Int) = M_stands_L107 h' o 0 ∧ (∀ z, z ≠ o + 32 → h' z = h z) ∧ (∀ i, j ≤ i → i < n → h' (o + 32) (1600 + i) = h (o + 32) i) ∧ ∀ i, i < 1600 + j → h' (o + 32) i = h (o + 32) i := by
  unfold M_stands_L75
  intro r
  induction r with
  | zero =>
    intro j h hr h41
    refine ⟨h, jloop_x ?_, fun _ _ => rfl, fun i h1 h2 => by omega, fun _ _ => rfl⟩
    show M_stands_B75 h o (j : Int) = _
    unfold M_stands_B75
    rw [h41, if_neg (by omega)]
  | succ r ih =>
    intro j h hr h41
    obtain ⟨h1, hh1⟩ : ∃ h1 : jH, h1 = jup h (o + 32) (1600 + j) (h (o + 32) j) := ⟨_, rfl⟩
    obtain ⟨h', e1, e2, e3, e4⟩ := ih (j + 1) h1 (by omega) (by rw [hh1, jup_ne (by omega)]; exact h41)
    refine ⟨h', (jloop_l (s' := ((((j + 1 : Nat)) : Int), h1)) ?_).trans e1, fun z hz => by rw [e2 z hz, hh1, jup_ne hz], fun i i1 i2 => ?_, fun i hi => by rw [e4 i (by omega), hh1, ju_ne (by omega)]⟩
    · show M_stands_B75 h o (j : Int) = _
      unfold M_stands_B75
      have k1 : ((j : Int)).toNat = j := by omega
      have k2 : (1600 + (j : Int)).toNat = 1600 + j := by omega
      rw [h41, if_pos (by omega), k1, if_pos (by omega), pw (x := 1600 + (j : Int)) (by omega) (by omega), k2, if_pos (by omega), pw (x := (j : Int) + 1) (by omega) (by omega), ← hh1]
      rfl
    · by_cases c : i = j
      · rw [e4 (1600 + i) (by omega), hh1, c, ju_eq]
      · rw [e3 i (by omega) i2, hh1, ju_ne (by omega)]
/-- the plan stands -/
theorem m_plan {h : jH} {n : Nat} {a b c : Int} {q : spPn} (hn : n ≤ 1600) (hd : MDr h o n q) (h0 : h (o + 28) 0 = a) (h1 : h (o + 28) 1 = b) (h2 : h (o + 28) 2 = c) : ∃ h', M_stands h o = M_stands_L107 h' o 0 ∧ (∀ z, z ≠ o → z ≠ o + 28 → z ≠ o + 30 → z ≠ o + 31 → z ≠ o + 32 → h' z = h z) ∧ (∀ f, f ≠ 43 → h' o f = h o f) ∧ h' o 43 = 1 ∧ (h' (o + 28) 5 = a ∧ h' (o + 28) 6 = b ∧ h' (o + 28) 7 = c ∧ h' (o + 28) 8 = (q.2.2.2.length : Int) ∧ h' (o + 28) 9 = q.2.2.1) ∧ MPu h' o q.2.2.2 ∧ MPl h' o (spPlOf a b c q) := by
  obtain ⟨m1, m2, m3, m4, m5, m6⟩ := hd
  obtain ⟨g0, hg0⟩ : ∃ g0 : jH, g0 = jup h o 43 1 := ⟨_, rfl⟩
  have o0 : ∀ z, z ≠ o → g0 z = h z := fun z hz => by rw [hg0, jup_ne hz]
  obtain ⟨g1, a1, a2, a3, a4⟩ := m_st7 (o := o) 5 0 g0 rfl
  obtain ⟨g2, b1, b2, b3, b4⟩ := m_st34 (o := o) 2 0 g1 rfl
  obtain ⟨g3, c1, c2, c3, c4⟩ := m_st75 (o := o) hn n 0 g2 rfl (by rw [b2 o (by omega) (by omega), a2 o (by omega), hg0, ju_ne (by decide)]; exact m1)
  have e28 : ∀ i, g3 (o + 28) i = g1 (o + 28) i := fun i => by rw [c2 _ (by omega), b2 _ (by omega) (by omega)]
  have s28 : ∀ i, i < 5 → g3 (o + 28) (5 + i) = h (o + 28) i := fun i hi => by rw [e28, a3 i (Nat.zero_le _) hi, o0 _ (by omega)]
  have s30 : ∀ i, i < 2 → g3 (o + 30) (2 + i) = h (o + 30) i ∧ g3 (o + 31) (2 + i) = h (o + 31) i := fun i hi => by
    rw [c2 (o + 30) (by omega), c2 (o + 31) (by omega), (b3 i (Nat.zero_le _) hi).1, (b3 i (Nat.zero_le _) hi).2, a2 _ (by omega), a2 _ (by omega), o0 _ (by omega), o0 _ (by omega)]
    exact ⟨rfl, rfl⟩
  have s32 : ∀ i, i < n → g3 (o + 32) (1600 + i) = h (o + 32) i := fun i hi => by rw [c3 i (Nat.zero_le _) hi, b2 _ (by omega) (by omega), a2 _ (by omega), o0 _ (by omega)]
  have pl1 : ∀ (w : Nat) (x : Option (List Int)) (d : List Int), w < 2 → MCd h o w n x → MPl1 g3 o w (x.getD d) d := by
    intro w x d hw m
    cases x with
    | none => exact Or.inr ⟨by rw [(s30 w hw).1]; exact m, rfl⟩
    | some K =>
      obtain ⟨s, k1, k2, k3, k4⟩ := m
      refine Or.inl ⟨s, by show s + K.length ≤ 1600; omega, by rw [(s30 w hw).1]; exact k1, by rw [(s30 w hw).2]; exact k2, fun i v hv => ?_⟩
      have := (List.getElem?_eq_some_iff.mp (show K[i]? = some v from hv)).1
      rw [s32 (s + i) (by omega)]
      exact k4 i v hv
  refine ⟨g3, ?_, fun z z1 z2 z3 z4 z5 => by rw [c2 z z5, b2 z z3 z4, a2 z z2, o0 z z1], fun f hf => by rw [c2 o (by omega), b2 o (by omega) (by omega), a2 o (by omega), hg0, ju_ne hf], by rw [c2 o (by omega), b2 o (by omega) (by omega), a2 o (by omega), hg0, ju_eq], ⟨(s28 0 (by decide)).trans h0, (s28 1 (by decide)).trans h1, (s28 2 (by decide)).trans h2, (s28 3 (by decide)).trans m5, (s28 4 (by decide)).trans m4⟩, ⟨by rw [e28, a4 3 (by decide), o0 _ (by omega)]; exact m5, fun i v hv => ?_⟩, pl1 0 _ _ (by decide) m2, pl1 1 _ _ (by decide) m3⟩
  · unfold M_stands
    rw [← hg0]
    exact a1.trans (b1.trans c1)
  · rw [c2 (o + 29) (by omega), b2 (o + 29) (by omega) (by omega), a2 (o + 29) (by omega), o0 (o + 29) (by omega)]
    exact m6 i v hv
end MPN
