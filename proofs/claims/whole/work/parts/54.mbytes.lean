/-! the reference's disk -/
def MD (h : jH) (o ns blk len : Nat) (D C : Nat → Nat → Int) : Prop :=
  h (o + 28) 5 = (ns : Int) ∧ h (o + 28) 7 = (blk : Int) ∧ h (o + 28) 6 * h (o + 28) 7 = (len : Int) ∧ (∀ s k, s < ns → k < len → h (o + 33) (708 + 128 * s + k) = D s k) ∧ (∀ s k, s < ns → k < len → h (o + 33) (196 + 128 * s + k) = C s k) ∧ ∀ s k, s < 4 → k < 128 → (ns ≤ s ∨ len ≤ k) → h (o + 33) (196 + 128 * s + k) = 0
section MDS
variable {h : jH} {o ns blk len s k : Nat} {D C : Nat → Nat → Int}
theorem m_at (hs : s < 4) (hk : k < 128) : M_diskAt h o (s : Int) (k : Int) = some (h (o + 33) (708 + 128 * s + k)) := by
  unfold M_diskAt
  rw [pw (x := 128 * (s : Int)) (by omega) (by omega), pw (x := 708 + 128 * (s : Int)) (by omega) (by omega), pw (by omega) (by omega), if_pos (by omega)]
  rw [show (708 + 128 * (s : Int) + (k : Int)).toNat = 708 + 128 * s + k by omega]
theorem m_len (hc : MD h o ns blk len D C) (hd : spDim ns blk len) : M_length h o = some (len : Int) := by
  have h2 := hd.len
  unfold M_length
  rw [if_pos (by simp), if_pos (by simp)]
  show some (wr (h (o + 28) 6 * h (o + 28) 7)) = _
  rw [hc.2.2.1, pw (by omega) (by omega)]
theorem m_blk (hc : MD h o ns blk len D C) : M_blockBytes h o = some (blk : Int) := by
  unfold M_blockBytes
  rw [if_pos (by simp)]
  show some (h (o + 28) 7) = _
  rw [hc.2.1]
theorem m_seg (hc : MD h o ns blk len D C) : M_segmentMany h o = some (ns : Int) := by
  unfold M_segmentMany
  rw [if_pos (by simp)]
  show some (h (o + 28) 5) = _
  rw [hc.1]
theorem m_oct (hd : spDim ns blk len) (hc : MD h o ns blk len D C) (hs : s < ns) (hk : k < len) : M_diskAt h o (s : Int) (k : Int) = some (D s k) := by
  have h2 := hd.len
  have h3 := hd.2.1
  rw [m_at (by omega) (by omega), hc.2.2.2.1 s k hs hk]
theorem m_by (c v : Int) (h0 : 0 ≤ c) (h1 : c < 251) (h2 : 0 ≤ v) (h3 : v < 256) : M_checkBy c v = some ((3 * c + v) % 251) := by
  unfold M_checkBy
  rw [pw (x := 3 * c) (by omega) (by omega), pw (by omega) (by omega), Int.tmod_eq_emod_of_nonneg (by omega)]
theorem m_ser (hd : spDim ns blk len) (hc : MD h o ns blk len D C) (hy : spByD ns len D) (hs : s < ns) : M_serialOf h o (s : Int) = some (spSer (D s)) := by
  have h2 := hd.len
  have y0 := hy s hs 0 (by omega)
  have y1 := hy s hs 1 (by omega)
  unfold M_serialOf
  rw [show (0 : Int) = ((0 : Nat) : Int) from rfl, show (1 : Int) = ((1 : Nat) : Int) from rfl, m_oct hd hc hs (by omega), m_oct hd hc hs (by omega)]
  show some (wr (wr (256 * D s 0) + D s 1)) = _
  rw [pw (x := 256 * D s 0) (by omega) (by omega), pw (by omega) (by omega)]
  rfl
theorem m_fst (hd : spDim ns blk len) (hc : MD h o ns blk len D C) (hy : spByD ns len D) (hs : s < ns) : M_firstOf h o (s : Int) = some (spFst (D s)) := by
  have h2 := hd.len
  have y0 := hy s hs 2 (by omega)
  have y1 := hy s hs 3 (by omega)
  unfold M_firstOf
  rw [show (2 : Int) = ((2 : Nat) : Int) from rfl, show (3 : Int) = ((3 : Nat) : Int) from rfl, m_oct hd hc hs (by omega), m_oct hd hc hs (by omega)]
  show some (wr (wr (256 * D s 2) + D s 3)) = _
  rw [pw (x := 256 * D s 2) (by omega) (by omega), pw (by omega) (by omega)]
  rfl
theorem m_head_L (hd : spDim ns blk len) (hc : MD h o ns blk len D C) (hy : spByD ns len D) (hs : s < ns) : ∀ (n i : Nat) (c : Int), 0 ≤ c → c < 251 → i + n = 4 → M_isHead_L5 h o (s : Int) c (i : Int) = some (if spChk (D s) n i c = D s 4 ∧ spSer (D s) ≠ 0 then 1 else 0) := by
  have h2 := hd.len
  unfold M_isHead_L5
  intro n
  induction n with
  | zero =>
    intro i c h0 h1 h3
    refine jloop_r ?_
    show M_isHead_B5 h o (s : Int) c (i : Int) = _
    unfold M_isHead_B5 M_isHead_p49
    rw [if_neg (by omega), show (4 : Int) = ((4 : Nat) : Int) from rfl, m_oct hd hc hs (by omega), m_ser hd hc hy hs]
    show Option.map Sum.inr (if c = D s 4 then (if spSer (D s) = 0 then some 0 else some 1) else some 0) = _
    unfold spChk
    by_cases a : c = D s 4
    · by_cases b : spSer (D s) = 0
      · simp [a, b]
      · simp [a, b]
    · simp [a]
  | succ n ih =>
    intro i c h0 h1 h3
    have y := hy s hs i (by omega)
    refine (jloop_l (s' := ((3 * c + D s i) % 251, ((i + 1 : Nat) : Int))) ?_).trans (ih (i + 1) _ (by omega) (by omega) (by omega))
    show M_isHead_B5 h o (s : Int) c (i : Int) = _
    unfold M_isHead_B5
    rw [if_pos (by omega), m_oct hd hc hs (by omega)]
    simp only [Option.bind_some]
    rw [m_by c _ h0 h1 y.1 y.2]
    show some (Sum.inl ((3 * c + D s i) % 251, wr ((i : Int) + 1))) = _
    rw [pw (by omega) (by omega)]
    rfl
theorem m_head (hd : spDim ns blk len) (hc : MD h o ns blk len D C) (hy : spByD ns len D) (hs : s < ns) : M_isHead h o (s : Int) = some (if spHead (D s) = true then 1 else 0) := by
  unfold M_isHead
  have := m_head_L hd hc hy hs 4 0 7 (by omega) (by omega) rfl
  rw [show (0 : Int) = ((0 : Nat) : Int) from rfl, this]
  unfold spHead
  simp
theorem m_frame_L (hd : spDim ns blk len) (hc : MD h o ns blk len D C) (hy : spByD ns len D) (hs : s < ns) (hk : k < len) {t : Nat} (ht : k + 4 + t ≤ len) : ∀ (n i : Nat) (c : Int), 0 ≤ c → c < 251 → i + n = 4 + t → M_isFrame_L79 h o (s : Int) (k : Int) (t : Int) c (i : Int) = some (if spChk (D s) n (k + i) c = D s k then 1 else 0) := by
  have h2 := hd.len
  unfold M_isFrame_L79
  intro n
  induction n with
  | zero =>
    intro i c h0 h1 h3
    refine jloop_r ?_
    show M_isFrame_B79 h o (s : Int) (k : Int) (t : Int) c (i : Int) = _
    unfold M_isFrame_B79
    rw [pw (x := 4 + (t : Int)) (by omega) (by omega), if_neg (by omega), m_oct hd hc hs hk]
    show Option.map Sum.inr (if c = D s k then some 1 else some 0) = _
    unfold spChk
    by_cases a : c = D s k
    · simp [a]
    · simp [a]
  | succ n ih =>
    intro i c h0 h1 h3
    have y := hy s hs (k + i) (by omega)
    refine (jloop_l (s' := ((3 * c + D s (k + i)) % 251, ((i + 1 : Nat) : Int))) ?_).trans (ih (i + 1) _ (by omega) (by omega) (by omega))
    show M_isFrame_B79 h o (s : Int) (k : Int) (t : Int) c (i : Int) = _
    unfold M_isFrame_B79
    rw [pw (x := 4 + (t : Int)) (by omega) (by omega), if_pos (by omega), pw (x := (k : Int) + (i : Int)) (by omega) (by omega), show (k : Int) + (i : Int) = ((k + i : Nat) : Int) by omega, m_oct hd hc hs (by omega)]
    simp only [Option.bind_some]
    rw [m_by c _ h0 h1 y.1 y.2]
    show some (Sum.inl ((3 * c + D s (k + i)) % 251, wr ((i : Int) + 1))) = _
    rw [pw (by omega) (by omega)]
    rfl
theorem m_room (hd : spDim ns blk len) : wr ((blk : Int) - Int.tmod (k : Int) (blk : Int)) = ((spEnd blk k - k : Nat) : Int) := by
  have b0 : 0 < blk := by have := hd.2.2.1; omega
  have b1 := hd.2.2.2.1
  have h1 := Nat.mod_lt k b0
  have h3 := Nat.mod_le k blk
  rw [Int.tmod_eq_emod_of_nonneg (by omega), show (k : Int) % (blk : Int) = ((k % blk : Nat) : Int) from rfl, pw (by omega) (by omega)]
  unfold spEnd
  omega
theorem m_frame (hd : spDim ns blk len) (hc : MD h o ns blk len D C) (hy : spByD ns len D) (hs : s < ns) : M_isFrame h o (s : Int) (k : Int) = some (if spFrame blk len (D s) k = true then 1 else 0) := by
  have h2 := hd.len
  have b0 : 0 < blk := by have := hd.2.2.1; omega
  have b1 := hd.2.2.2.1
  have h1 := spEnd_gt (blk := blk) (k := k) b0
  unfold M_isFrame
  rw [m_blk hc, m_len hc hd]
  show (if (blk : Int) ≠ 0 then (if (k : Int) < (len : Int) then (if 4 < wr ((blk : Int) - Int.tmod (k : Int) (blk : Int)) then Option.bind (M_diskAt h o (s : Int) (wr ((k : Int) + 2))) _ else some 0) else some 0) else none) = _
  rw [if_pos (by omega), m_room hd]
  unfold spFrame
  by_cases a2 : k < len
  rotate_left
  · rw [if_neg (by omega), if_neg (by simp [a2])]
  have h3 := spEnd_le b0 h2.2.2.2 a2
  rw [if_pos (by omega)]
  by_cases a1 : k + 4 < spEnd blk k
  rotate_left
  · rw [if_neg (by omega), if_neg (by simp [a1])]
  rw [if_pos (by omega)]
  rw [pw (x := (k : Int) + 2) (by omega) (by omega), pw (x := (k : Int) + 3) (by omega) (by omega), show (k : Int) + 2 = ((k + 2 : Nat) : Int) by omega, show (k : Int) + 3 = ((k + 3 : Nat) : Int) by omega]
  rw [m_oct hd hc hs (show k + 2 < len by omega), m_oct hd hc hs (show k + 3 < len by omega), m_ser hd hc hy hs]
  have y2 := hy s hs (k + 2) (by omega)
  obtain ⟨n, hn⟩ : ∃ n : Nat, D s (k + 2) = n := ⟨(D s (k + 2)).toNat, by omega⟩
  show (if D s (k + 2) = 0 then some 0 else if ((spEnd blk k - k : Nat) : Int) < wr (4 + D s (k + 2)) then some 0 else (if D s (k + 3) = jand (spSer (D s)) 255 then M_isFrame_L79 h o (s : Int) (k : Int) (D s (k + 2)) 7 1 else some 0)) = _
  rw [pj_255, pw (x := 4 + D s (k + 2)) (by omega) (by omega)]
  by_cases k3 : D s (k + 2) = 0
  · rw [if_pos k3, if_neg (by simp; omega)]
  by_cases k4 : ((spEnd blk k - k : Nat) : Int) < 4 + D s (k + 2)
  · rw [if_neg k3, if_pos k4, if_neg (by simp; omega)]
  by_cases k5 : D s (k + 3) = spSer (D s) % 256
  rotate_left
  · rw [if_neg k3, if_neg k4, if_neg k5, if_neg (by simp [k5])]
  rw [if_neg k3, if_neg k4, if_pos k5, hn, show (1 : Int) = ((1 : Nat) : Int) from rfl, m_frame_L hd hc hy hs a2 (show k + 4 + n ≤ len by omega) (3 + n) 1 7 (by omega) (by omega) (by omega)]
  rw [show ((n : Int)).toNat = n from rfl]
  by_cases k6 : spChk (D s) (3 + n) (k + 1) 7 = D s k
  · rw [if_pos k6, if_pos]
    · rfl
    · simp [a1, a2, k5, k6]
      omega
  · rw [if_neg k6, if_neg]
    intro hq
    simp at hq
    exact k6 hq.2
end MDS
