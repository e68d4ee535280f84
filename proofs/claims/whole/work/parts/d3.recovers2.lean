/-! what a crash would leave: the reference -/
section RCW
variable {ns blk len : Nat} {b : Int} {p : spPl} {X : spX}
theorem MS.pla {h : jH} {o : Nat} {kpm : spKp} {s : spSt} (hs : MS h o ns blk len kpm s) : h (o + 33) 5 = (s.2.2.2.2.2.1 : Int) ∧ h (o + 33) 6 = (s.2.2.2.2.2.2.1 : Int) ∧ ∀ i, i < 16 → h (o + 33) (144 + i) = s.2.2.2.2.1.1 i := by
  obtain ⟨⟨D, C⟩, ⟨F, lf⟩, ⟨q, fl, first⟩, ⟨wt, kp⟩, ⟨tab, stab, snap, tops⟩, ⟨sg, at', ser, gr, hl, tk⟩⟩ := s
  obtain ⟨c1, c2, c3, c4, c5, ⟨t1, t2, t3, t4⟩, p1, p2, p3, p4, p5, p6, p7⟩ := hs
  exact ⟨p1, p2, t1⟩
/-- a crash in a thought -/
theorem RT.crash {h g : jH} {o k : Nat} {s sX : spSt} (hI : spInv ns blk len b sX) (hk : k ≤ sX.2.1.1.length) (t : RT h g o ns blk len s sX) : ∃ h', M_crashes g o (k : Int) = some h' ∧ (∀ z, z ≠ o → z ≠ o + 33 → z ≠ o + 37 → h' z = g z) ∧ (∀ f, (f < 59 ∨ 65 < f) → h' o f = g o f) ∧ RT h h' o ns blk len s (spCra ns blk len k sX) := by
  obtain ⟨t1, t2, t3⟩ := t
  obtain ⟨h', e1, e2, e3, e4⟩ := m_crash t2 hI hk
  exact ⟨h', e1, e2, e3, fun i hi => by rw [e2 _ (by omega) (by omega) (by omega)]; exact t1 i hi, e4, by rw [e2 _ (by omega) (by omega) (by omega)]; exact t3⟩
theorem RM.recovers {h : jH} {o : Nat} {k v2 : Int} (hk : spXk ns blk len b X) (r : RM h o ns blk len p X) : ∃ h', M_recovers h o k v2 = some (spDRecovers ns blk len k v2 X, h') ∧ RMf o h h' ∧ RM h' o ns blk len p X := by
  obtain ⟨m, q1, q2, q3, q4, q5, q6⟩ := r.2
  have hq := q6.que
  unfold M_recovers spDRecovers
  rw [if_neg r.told, if_pos (by decide), show ((4 : Int)).toNat = 4 from rfl, hq.2.2.2.2.2.1, m_isIn]
  simp only [Option.bind_some]
  by_cases a : 0 ≤ k ∧ k ≤ (X.1.2.1.1.length : Int)
  rotate_left
  · rw [if_neg a, if_neg a, if_pos rfl]
    exact ⟨h, rfl, RMf.rf, r⟩
  rw [if_pos a, if_pos a, if_neg (by decide), m_isIn]
  simp only [Option.bind_some]
  by_cases a2 : 0 ≤ v2 ∧ v2 ≤ 4
  rotate_left
  · rw [if_neg a2, if_pos rfl, if_neg (by omega), if_neg (by omega), if_neg (by omega), if_neg (by omega), if_neg (by omega)]
    exact ⟨h, rfl, RMf.rf, r⟩
  rw [if_pos a2, if_neg (by decide)]
  obtain ⟨g, e1, e2, e3, e4, e5⟩ := r.aside
  rw [e1]
  simp only [Option.bind_some]
  obtain ⟨g2, x1, x2, x3, x4⟩ := e5.crash (k := k.toNat) hk.1.1 (by omega)
  rw [show (k.toNat : Int) = k by omega] at x1
  rw [x1]
  simp only [Option.bind_some]
  obtain ⟨g3, y1, y2, y3, y4, y5⟩ := x4.back q6 hk.1.1
  have hq2 := x4.2.1.que
  have hp2 := x4.2.1.pla
  have hl0 : (spCra ns blk len k.toNat X.1).2.2.1.1.length = 0 := rfl
  have fin : ∀ w : Int, M_recovers_p96 g2 o w = some (w, g3) := fun w => by
    unfold M_recovers_p96
    rw [y1]
    rfl
  refine ⟨g3, ?_, ⟨fun z z1 _ z3 _ _ z6 z7 _ _ => by rw [y2 z z1 z3, x2 z z1 z3 z7, e2 z z1 z6], fun f _ _ _ _ _ _ _ _ f9 f10 _ _ _ => by rw [y3 f f9, x3 f f10, e3 f f9]⟩, r.same (fun z hz => by rw [y2 z (by omega) (by omega), x2 z (by omega) (by omega) (by omega), e2 z (by omega) (by omega)]) (fun f hf => by rw [y3 f (by omega), x3 f (by omega), e3 f (by omega)]) (by rw [y3 52 (by decide), x3 52 (by omega), e3 52 (by decide)]; exact r.1.2.1) y4 (by rw [y3 53 (by decide), x3 53 (by omega), e3 53 (by decide)]; exact r.1.2.2.2.1) y5⟩
  generalize spCra ns blk len k.toNat X.1 = s' at hq2 hp2 hl0 ⊢
  by_cases b0 : v2 = 0
  · rw [if_pos b0, if_pos b0, if_pos (by decide), show ((1 : Int)).toNat = 1 from rfl, hq2.1, hl0, fin]
    congr 2
    show _ + ((0 : Nat) : Int) = _
    omega
  rw [if_neg b0, if_neg b0]
  by_cases b1 : v2 = 1
  · rw [if_pos b1, if_pos b1, if_pos (by decide), show ((10 : Int)).toNat = 10 from rfl, hq2.2.2.2.1, fin]
  rw [if_neg b1, if_neg b1]
  by_cases b2 : v2 = 2
  · subst b2
    rw [if_pos (by decide), if_pos (show (2 : Int) = 2 from rfl), show wr (wr (5 + 2) - 2) = 5 by rw [pw (x := 5 + 2) (by omega) (by omega), pw (by omega) (by omega)]; rfl, if_pos (by decide), show ((5 : Int)).toNat = 5 from rfl, hp2.1, fin]
  rw [if_neg b2]
  by_cases b3 : v2 = 3
  · subst b3
    rw [if_pos (by decide), if_pos (show (3 : Int) = 3 from rfl), show wr (wr (5 + 3) - 2) = 6 by rw [pw (x := 5 + 3) (by omega) (by omega), pw (by omega) (by omega)]; rfl, if_pos (by decide), show ((6 : Int)).toNat = 6 from rfl, hp2.2.1, fin]
  rw [if_neg b3]
  have b4 : v2 = 4 := by omega
  subst b4
  rw [if_neg (by decide), if_pos rfl, m_count hp2.2.2]
  simp only [Option.bind_some]
  exact fin _
end RCW
