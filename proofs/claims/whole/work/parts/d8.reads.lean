/-! what is told of the state at once: value, place, waiter, waiting, on both sides -/
def spDValue (k : Int) (X : spX) : Int := if 0 ≤ k ∧ k ≤ 15 then X.1.2.2.2.2.1.1 k.toNat else -1
def spDPlace (k : Int) (X : spX) : Int := if k = 0 then (X.1.2.2.2.2.2.1 : Int) else if k = 1 then (X.1.2.2.2.2.2.2.1 : Int) else if k = 2 then X.1.2.2.2.2.2.2.2.1 else -1
def spDWaiter (k : Int) (X : spX) : Int := spAw X.1.2.2.2.1.1 k
section RDS
variable {T : jT} {o0 pl ns blk len B : Nat} {p : spPl} {X : spX} {b : Int}
theorem CS.pla {h : jH} {o n : Nat} {s : spSt} (hs : CS h o ns blk len n s) : h o 10 = (s.2.2.2.2.2.1 : Int) ∧ h o 11 = (s.2.2.2.2.2.2.1 : Int) ∧ h o 12 = s.2.2.2.2.2.2.2.1 ∧ ∀ i, i < 16 → h (o + 18) i = s.2.2.2.2.1.1 i := by
  obtain ⟨⟨D, C⟩, ⟨F, lf⟩, ⟨q, fl, first⟩, ⟨wt, kp⟩, ⟨tab, stab, snap, tops⟩, ⟨sg, at', ser, gr, hl, tk⟩⟩ := s
  obtain ⟨c1, c2, c3, c4, ⟨t1, t2, t3, t4⟩, p1, p2, p3, p4, p5, p6⟩ := hs
  exact ⟨p1, p2, p3, t1⟩
theorem MS.ser {h : jH} {o : Nat} {kpm : spKp} {s : spSt} (hs : MS h o ns blk len kpm s) : h (o + 33) 7 = s.2.2.2.2.2.2.2.1 := by
  obtain ⟨⟨D, C⟩, ⟨F, lf⟩, ⟨q, fl, first⟩, ⟨wt, kp⟩, ⟨tab, stab, snap, tops⟩, ⟨sg, at', ser, gr, hl, tk⟩⟩ := s
  obtain ⟨c1, c2, c3, c4, c5, t, p1, p2, p3, p4, p5, p6, p7⟩ := hs
  exact p3
theorem RC.value {h : jH} {k : Int} (r : RC T h o0 pl ns blk len p B X) : G_value h o0 k = some (spDValue k X) := by
  obtain ⟨_, c, n, q1, q2, q3, q4, q5, q6, q7⟩ := r
  have hp := q5.pla.2.2.2
  unfold G_value spDValue
  rw [g_cell]
  simp only [Option.bind_some]
  by_cases a : 0 ≤ k ∧ k < ((16 : Nat) : Int)
  · rw [if_pos a, if_pos (by omega)]
    exact congrArg some (hp k.toNat (by omega))
  · rw [if_neg a, if_neg (by omega)]
theorem RM.value {h : jH} {o : Nat} {k : Int} (r : RM h o ns blk len p X) : M_value h o k = some (spDValue k X) := by
  obtain ⟨m, q1, q2, q3, q4, q5, q6⟩ := r.2
  have hp := q6.pla.2.2
  unfold M_value M_value_p32 spDValue
  rw [if_neg r.told, m_isIn]
  simp only [Option.bind_some]
  by_cases a : 0 ≤ k ∧ k ≤ 15
  · rw [if_pos a, if_neg (by decide), if_pos a, pw (by omega) (by omega), if_pos (by omega), show (144 + k).toNat = 144 + k.toNat by omega, hp k.toNat (by omega)]
  · rw [if_neg a, if_pos rfl, if_neg a]
theorem RC.place {h : jH} {k : Int} (hd : spDim ns blk len) (r : RC T h o0 pl ns blk len p B X) : G_place T h o0 k = some (spDPlace k X) := by
  have r0 := r
  obtain ⟨_, c, n, q1, q2, q3, q4, q5, q6, q7⟩ := r
  have hp := q5.pla
  unfold G_place spDPlace
  rw [r0.told hd]
  simp only [Option.bind_some]
  rw [if_neg (by decide), hp.1, hp.2.1, hp.2.2.1]
  by_cases a0 : k = 0
  · rw [if_pos a0, if_pos a0]
  rw [if_neg a0, if_neg a0]
  by_cases a1 : k = 1
  · rw [if_pos a1, if_pos a1]
  rw [if_neg a1, if_neg a1]
  by_cases a2 : k = 2
  · rw [if_pos a2, if_pos a2]
  rw [if_neg a2, if_neg a2]
theorem RM.place {h : jH} {o : Nat} {k : Int} (r : RM h o ns blk len p X) : M_place h o k = some (spDPlace k X) := by
  obtain ⟨m, q1, q2, q3, q4, q5, q6⟩ := r.2
  have hp := q6.pla
  have hs := q6.ser
  unfold M_place M_place_p30 spDPlace
  rw [if_neg r.told, m_isIn]
  simp only [Option.bind_some]
  by_cases a : 0 ≤ k ∧ k ≤ 2
  rotate_left
  · rw [if_neg a, if_pos rfl, if_neg (by omega), if_neg (by omega), if_neg (by omega)]
  rw [if_pos a, if_neg (by decide), pw (by omega) (by omega), if_pos (by omega)]
  by_cases a0 : k = 0
  · subst a0
    rw [if_pos rfl]; exact congrArg some hp.1
  rw [if_neg a0]
  by_cases a1 : k = 1
  · subst a1
    rw [if_pos rfl]; exact congrArg some hp.2.1
  rw [if_neg a1, if_pos (by omega)]
  have a2 : k = 2 := by omega
  subst a2
  exact congrArg some hs
theorem RC.waiter {h : jH} {k : Int} (r : RC T h o0 pl ns blk len p B X) : G_waiter h o0 k = some (spDWaiter k X) := by
  obtain ⟨_, c, n, q1, q2, q3, q4, q5, q6, q7⟩ := r
  unfold G_waiter spDWaiter
  rw [show Wa_awaitedBy h (o0 + 47) k = _ from c_aw q5.que.2.2.2.2.2.1]
  rfl
theorem RM.waiter {h : jH} {o : Nat} {k : Int} (hk : spXk ns blk len b X) (r : RM h o ns blk len p X) : M_waiter h o k = some (spDWaiter k X) := by
  obtain ⟨m, q1, q2, q3, q4, q5, q6⟩ := r.2
  have haw := q6.que.2.2.2.2.2.2.2.1
  have hw : spWhos X.1.2.2.2.1.1 := by
    have := hk.1.1
    generalize X.1 = s at this ⊢
    obtain ⟨⟨D, C⟩, ⟨F, lf⟩, ⟨q, fl, first⟩, ⟨wt, kp⟩, ⟨tab, stab, snap, tops⟩, ⟨sg, at', ser, gr, hl, tk⟩⟩ := s
    exact this.2.2.2.1.2.1
  unfold M_waiter M_waiter_p32 spDWaiter
  rw [if_neg r.told, m_isIn]
  simp only [Option.bind_some]
  by_cases a : 0 ≤ k ∧ k ≤ 7
  · rw [if_pos a, if_neg (by decide), pw (by omega) (by omega), if_pos (by omega), show (184 + k).toNat = 184 + k.toNat by omega, haw k.toNat (by omega), show (k.toNat : Int) = k by omega]
  · rw [if_neg a, if_pos rfl, spAw_no (fun e he => by have := hw.1 e he; omega)]
end RDS
