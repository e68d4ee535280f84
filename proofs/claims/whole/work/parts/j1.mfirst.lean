/-! the reference's first state: emptied -/
section MFI
variable {o : Nat}
theorem m_st107 : ∀ (r j : Nat) (h : jH), r + j = 2365 → ∃ h', M_stands_L107 h o (j : Int) = M_stands_L129 h' o 0 ∧ (∀ z, z ≠ o + 33 → h' z = h z) ∧ (∀ i, j ≤ i → i < 2365 → h' (o + 33) i = 0) ∧ ∀ i, i < j → h' (o + 33) i = h (o + 33) i := by
  unfold M_stands_L107
  intro r
  induction r with
  | zero =>
    intro j h hr
    refine ⟨h, jloop_x ?_, fun _ _ => rfl, fun i h1 h2 => by omega, fun _ _ => rfl⟩
    show M_stands_B107 h o (j : Int) = _
    unfold M_stands_B107
    rw [if_neg (by omega)]
  | succ r ih =>
    intro j h hr
    obtain ⟨h1, hh1⟩ : ∃ h1 : jH, h1 = jup h (o + 33) j 0 := ⟨_, rfl⟩
    obtain ⟨h', e1, e2, e3, e4⟩ := ih (j + 1) h1 (by omega)
    refine ⟨h', (jloop_l (s' := ((((j + 1 : Nat)) : Int), h1)) ?_).trans e1, fun z hz => by rw [e2 z hz, hh1, jup_ne hz], fun i i1 i2 => ?_, fun i hi => by rw [e4 i (by omega), hh1, ju_ne (by omega)]⟩
    · show M_stands_B107 h o (j : Int) = _
      unfold M_stands_B107
      have k1 : ((j : Int)).toNat = j := by omega
      rw [if_pos (by omega), k1, if_pos (by omega), pw (x := (j : Int) + 1) (by omega) (by omega), ← hh1]
      rfl
    · by_cases c : i = j
      · rw [e4 i (by omega), hh1, c, ju_eq]
      · exact e3 i (by omega) i2
theorem m_st129 : ∀ (r j : Nat) (h : jH), r + j = 16 → ∃ h', M_stands_L129 h o (j : Int) = M_stands_L165 h' o 0 ∧ (∀ z, z ≠ o + 33 → h' z = h z) ∧ (∀ i, j ≤ i → i < 16 → h' (o + 33) (144 + i) = -1 ∧ h' (o + 33) (160 + i) = -1) ∧ ∀ i, (i < 144 + j ∨ 160 ≤ i) → (i < 160 + j ∨ 176 ≤ i) → h' (o + 33) i = h (o + 33) i := by
  unfold M_stands_L129
  intro r
  induction r with
  | zero =>
    intro j h hr
    refine ⟨h, jloop_x ?_, fun _ _ => rfl, fun i h1 h2 => by omega, fun _ _ _ => rfl⟩
    show M_stands_B129 h o (j : Int) = _
    unfold M_stands_B129
    rw [if_neg (by omega)]
  | succ r ih =>
    intro j h hr
    obtain ⟨h1, hh1⟩ : ∃ h1 : jH, h1 = jup (jup h (o + 33) (144 + j) (-1)) (o + 33) (160 + j) (-1) := ⟨_, rfl⟩
    obtain ⟨h', e1, e2, e3, e4⟩ := ih (j + 1) h1 (by omega)
    refine ⟨h', (jloop_l (s' := ((((j + 1 : Nat)) : Int), h1)) ?_).trans e1, fun z hz => by rw [e2 z hz, hh1, jup_ne hz, jup_ne hz], fun i i1 i2 => ?_, fun i hi hi2 => by rw [e4 i (by omega) (by omega), hh1, ju_ne (by omega), ju_ne (by omega)]⟩
    · show M_stands_B129 h o (j : Int) = _
      unfold M_stands_B129
      have k1 : (144 + (j : Int)).toNat = 144 + j := by omega
      have k2 : (160 + (j : Int)).toNat = 160 + j := by omega
      rw [if_pos (by omega), pw (x := 144 + (j : Int)) (by omega) (by omega), k1, if_pos (by omega), pw (x := 160 + (j : Int)) (by omega) (by omega), k2, if_pos (by omega), pw (x := (j : Int) + 1) (by omega) (by omega), ← hh1]
      rfl
    · by_cases c : i = j
      · rw [e4 (144 + i) (by omega) (by omega), e4 (160 + i) (by omega) (by omega), hh1, c, ju_eq, ju_ne (by omega), ju_eq]
        exact ⟨rfl, rfl⟩
      · exact e3 i (by omega) i2
theorem m_st165 : ∀ (r j : Nat) (h : jH), r + j = 8 → ∃ h', M_stands_L165 h o (j : Int) = M_stands_L190 h' o 0 ∧ (∀ z, z ≠ o + 33 → h' z = h z) ∧ (∀ i, j ≤ i → i < 8 → h' (o + 33) (184 + i) = -1) ∧ ∀ i, (i < 184 + j ∨ 192 ≤ i) → h' (o + 33) i = h (o + 33) i := by
  unfold M_stands_L165
  intro r
  induction r with
  | zero =>
    intro j h hr
    refine ⟨h, jloop_x ?_, fun _ _ => rfl, fun i h1 h2 => by omega, fun _ _ => rfl⟩
    show M_stands_B165 h o (j : Int) = _
    unfold M_stands_B165
    rw [if_neg (by omega)]
  | succ r ih =>
    intro j h hr
    obtain ⟨h1, hh1⟩ : ∃ h1 : jH, h1 = jup h (o + 33) (184 + j) (-1) := ⟨_, rfl⟩
    obtain ⟨h', e1, e2, e3, e4⟩ := ih (j + 1) h1 (by omega)
    refine ⟨h', (jloop_l (s' := ((((j + 1 : Nat)) : Int), h1)) ?_).trans e1, fun z hz => by rw [e2 z hz, hh1, jup_ne hz], fun i i1 i2 => ?_, fun i hi => by rw [e4 i (by omega), hh1, ju_ne (by omega)]⟩
    · show M_stands_B165 h o (j : Int) = _
      unfold M_stands_B165
      have k1 : (184 + (j : Int)).toNat = 184 + j := by omega
      rw [if_pos (by omega), pw (x := 184 + (j : Int)) (by omega) (by omega), k1, if_pos (by omega), pw (x := (j : Int) + 1) (by omega) (by omega), ← hh1]
      rfl
    · by_cases c : i = j
      · rw [e4 (184 + i) (by omega), hh1, c, ju_eq]
      · exact e3 i (by omega) i2
theorem m_st190 : ∀ (r j : Nat) (h : jH), r + j = 4 → ∃ h', M_stands_L190 h o (j : Int) = Option.bind (M_opensOnDisk h' o 0 0) (fun b21 => M_stands_L230 (jup (jup b21 o 73 0) o 66 0) o 0) ∧ (∀ z, z ≠ o + 33 → h' z = h z) ∧ (∀ i, j ≤ i → i < 4 → h' (o + 33) (192 + i) = -1) ∧ ∀ i, (i < 192 + j ∨ 196 ≤ i) → h' (o + 33) i = h (o + 33) i := by
  unfold M_stands_L190
  intro r
  induction r with
  | zero =>
    intro j h hr
    refine ⟨h, jloop_x ?_, fun _ _ => rfl, fun i h1 h2 => by omega, fun _ _ => rfl⟩
    show M_stands_B190 h o (j : Int) = _
    unfold M_stands_B190
    rw [if_neg (by omega)]
  | succ r ih =>
    intro j h hr
    obtain ⟨h1, hh1⟩ : ∃ h1 : jH, h1 = jup h (o + 33) (192 + j) (-1) := ⟨_, rfl⟩
    obtain ⟨h', e1, e2, e3, e4⟩ := ih (j + 1) h1 (by omega)
    refine ⟨h', (jloop_l (s' := ((((j + 1 : Nat)) : Int), h1)) ?_).trans e1, fun z hz => by rw [e2 z hz, hh1, jup_ne hz], fun i i1 i2 => ?_, fun i hi => by rw [e4 i (by omega), hh1, ju_ne (by omega)]⟩
    · show M_stands_B190 h o (j : Int) = _
      unfold M_stands_B190
      have k1 : (192 + (j : Int)).toNat = 192 + j := by omega
      rw [if_pos (by omega), pw (x := 192 + (j : Int)) (by omega) (by omega), k1, if_pos (by omega), pw (x := (j : Int) + 1) (by omega) (by omega), ← hh1]
      rfl
    · by_cases c : i = j
      · rw [e4 (192 + i) (by omega), hh1, c, ju_eq]
      · exact e3 i (by omega) i2
/-- all is emptied -/
theorem m_emptied {h : jH} : ∃ h', M_stands_L107 h o 0 = Option.bind (M_opensOnDisk h' o 0 0) (fun b21 => M_stands_L230 (jup (jup b21 o 73 0) o 66 0) o 0) ∧ (∀ z, z ≠ o + 33 → h' z = h z) ∧ ∀ i, i < 2365 → h' (o + 33) i = (if 144 ≤ i ∧ i < 176 then -1 else if 184 ≤ i ∧ i < 196 then -1 else 0) := by
  obtain ⟨h1, a1, a2, a3, -⟩ := m_st107 (o := o) 2365 0 h rfl
  obtain ⟨h2, b1, b2, b3, b4⟩ := m_st129 (o := o) 16 0 h1 rfl
  obtain ⟨h3, c1, c2, c3, c4⟩ := m_st165 (o := o) 8 0 h2 rfl
  obtain ⟨h4, d1, d2, d3, d4⟩ := m_st190 (o := o) 4 0 h3 rfl
  refine ⟨h4, a1.trans (b1.trans (c1.trans d1)), fun z hz => by rw [d2 z hz, c2 z hz, b2 z hz, a2 z hz], fun i hi => ?_⟩
  by_cases e1 : 144 ≤ i ∧ i < 176
  · rw [if_pos e1, d4 i (by omega), c4 i (by omega)]
    by_cases e2 : i < 160
    · have := (b3 (i - 144) (Nat.zero_le _) (by omega)).1
      rw [show 144 + (i - 144) = i by omega] at this
      exact this
    · have := (b3 (i - 160) (Nat.zero_le _) (by omega)).2
      rw [show 160 + (i - 160) = i by omega] at this
      exact this
  rw [if_neg e1]
  by_cases e2 : 184 ≤ i ∧ i < 196
  · rw [if_pos e2]
    by_cases e3 : i < 192
    · rw [d4 i (by omega)]
      have := c3 (i - 184) (Nat.zero_le _) (by omega)
      rw [show 184 + (i - 184) = i by omega] at this
      exact this
    · have := d3 (i - 192) (Nat.zero_le _) (by omega)
      rw [show 192 + (i - 192) = i by omega] at this
      exact this
  · rw [if_neg e2, d4 i (by omega), c4 i (by omega), b4 i (by omega) (by omega)]
    exact a3 i (Nat.zero_le _) hi
end MFI
