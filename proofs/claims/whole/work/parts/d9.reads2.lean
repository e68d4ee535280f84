/-! a byte, a record that waits, on both sides -/
def spDOctet (ns len : Nat) (s k : Int) (X : spX) : Int := if 0 ≤ s ∧ s < (ns : Int) ∧ 0 ≤ k ∧ k < (len : Int) then X.1.1.1 s.toNat k.toNat else -1
section RDT
variable {T : jT} {o0 pl ns blk len B : Nat} {p : spPl} {X : spX} {b : Int}
theorem RC.octetOf {h : jH} {s k : Int} (hd : spDim ns blk len) (r : RC T h o0 pl ns blk len p B X) : G_octetOf h o0 s k = some (spDOctet ns len s k X) := by
  obtain ⟨_, c, n, q1, q2, q3, q4, q5, q6, q7⟩ := r
  have hD : CD h (o0 + 36) ns blk len X.1.1.1 X.1.1.2 := q5.que.2.2.2.2.2.2.1
  unfold G_octetOf spDOctet
  by_cases a : 0 ≤ s ∧ s < (ns : Int) ∧ 0 ≤ k ∧ k < (len : Int)
  · have ho := c_oct (s := s.toNat) (k := k.toNat) hd hD (by omega) (by omega)
    rw [show (s.toNat : Int) = s by omega, show (k.toNat : Int) = k by omega] at ho
    rw [ho, if_pos a]
    rfl
  · rw [if_neg a]
    unfold Di_octetAt
    rw [hD.1, hD.2.1]
    by_cases a1 : s < 0
    · rw [if_pos a1]; rfl
    rw [if_neg a1]
    by_cases a2 : s < (ns : Int)
    rotate_left
    · rw [if_neg a2]; rfl
    rw [if_pos a2]
    by_cases a3 : k < 0
    · rw [if_pos a3]; rfl
    rw [if_neg a3]
    rw [if_neg (show ¬ k < (len : Int) by omega)]
    rfl
theorem RM.isSeg {h : jH} {o : Nat} {s : Int} (hd : spDim ns blk len) (r : RM h o ns blk len p X) : M_isSegment h o s = some (if 0 ≤ s ∧ s ≤ (ns : Int) - 1 then 1 else 0) ∧ M_length h o = some (len : Int) := by
  have hl := hd.len
  have hn4 := hd.2.1
  have hn2 := hd.1
  obtain ⟨m, q1, q2, q3, q4, q5, q6⟩ := r.2
  have hD := q6.que.2.2.2.2.2.2.2.2.1
  refine ⟨?_, ?_⟩
  · unfold M_isSegment M_isSegment_p27 M_segmentMany
    rw [if_neg r.told, if_pos (by decide), show ((5 : Int)).toNat = 5 from rfl, hD.1]
    simp only [Option.bind_some]
    rw [pw (by omega) (by omega), m_isIn]
    simp only [Option.bind_some]
    by_cases a : 0 ≤ s ∧ s ≤ (ns : Int) - 1
    · rw [if_pos a, if_neg (by decide)]
    · rw [if_neg a, if_pos rfl]
  · unfold M_length
    rw [if_pos (by decide), if_pos (by decide), show ((6 : Int)).toNat = 6 from rfl, show ((7 : Int)).toNat = 7 from rfl, hD.2.2.1, pw (by omega) (by omega)]
theorem RM.octetOf {h : jH} {o : Nat} {s k : Int} (hd : spDim ns blk len) (r : RM h o ns blk len p X) : M_octetOf h o s k = some (spDOctet ns len s k X) := by
  have hl := hd.len
  have hn4 := hd.2.1
  have hs := r.isSeg (s := s) hd
  obtain ⟨m, q1, q2, q3, q4, q5, q6⟩ := r.2
  have hD := q6.que.2.2.2.2.2.2.2.2.1
  unfold M_octetOf M_octetOf_p33 spDOctet
  rw [hs.1]
  simp only [Option.bind_some]
  by_cases a1 : 0 ≤ s ∧ s ≤ (ns : Int) - 1
  rotate_left
  · rw [if_neg a1, if_pos rfl, if_neg (by omega)]
  rw [if_pos a1, if_neg (by decide), hs.2]
  simp only [Option.bind_some]
  rw [pw (by omega) (by omega), m_isIn]
  simp only [Option.bind_some]
  by_cases a2 : 0 ≤ k ∧ k ≤ (len : Int) - 1
  rotate_left
  · rw [if_neg a2, if_pos rfl, if_neg (by omega)]
  rw [if_pos a2, if_neg (by decide), if_pos (by omega)]
  have ho := m_at (h := h) (o := o) (s := s.toNat) (k := k.toNat) (by omega) (by omega)
  rw [show (s.toNat : Int) = s by omega, show (k.toNat : Int) = k by omega, hD.2.2.2.1 s.toNat k.toNat (by omega) (by omega)] at ho
  rw [ho]
  rfl
end RDT
