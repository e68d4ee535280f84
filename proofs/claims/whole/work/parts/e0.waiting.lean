/-! the records that wait, on both sides -/
def spDWaiting (k f : Int) (X : spX) : Int := if 0 ≤ k ∧ k < (spWtg X.1 : Int) ∧ 0 ≤ f ∧ f ≤ 3 then (if f = 0 then X.1.2.2.1.2.2 + (X.1.2.2.1.2.1 : Int) + k else if f = 1 then ((X.1.2.2.1.1.drop (X.1.2.2.1.2.1 + k.toNat)).headD (0, 0, 0, 0)).1 else if f = 2 then ((X.1.2.2.1.1.drop (X.1.2.2.1.2.1 + k.toNat)).headD (0, 0, 0, 0)).2.1 else ((X.1.2.2.1.1.drop (X.1.2.2.1.2.1 + k.toNat)).headD (0, 0, 0, 0)).2.2.1) else -1
section WTG
variable {T : jT} {o0 pl ns blk len B : Nat} {p : spPl} {X : spX} {b : Int}
theorem CS.cq {h : jH} {o n : Nat} {s : spSt} (hs : CS h o ns blk len n s) : CQ h (o + 7) s.2.2.1.1 s.2.2.1.2.1 s.2.2.1.2.2 := by
  obtain ⟨⟨D, C⟩, ⟨F, lf⟩, ⟨q, fl, first⟩, ⟨wt, kp⟩, ⟨tab, stab, snap, tops⟩, ⟨sg, at', ser, gr, hl, tk⟩⟩ := s
  exact hs.2.2.1
theorem MS.mq {h : jH} {o : Nat} {kpm : spKp} {s : spSt} (hs : MS h o ns blk len kpm s) : MQu (h (o + 33)) s.2.2.1.1 s.2.2.1.2.1 s.2.2.1.2.2 := by
  obtain ⟨⟨D, C⟩, ⟨F, lf⟩, ⟨q, fl, first⟩, ⟨wt, kp⟩, ⟨tab, stab, snap, tops⟩, ⟨sg, at', ser, gr, hl, tk⟩⟩ := s
  exact hs.2.2.1
theorem RC.waiting {h : jH} {k f : Int} (hk : spXk ns blk len b X) (r : RC T h o0 pl ns blk len p B X) : G_waiting h o0 k f = some (spDWaiting k f X) := by
  have hi := hk.1.1.que
  obtain ⟨_, c, n, q1, q2, q3, q4, q5, q6, q7⟩ := r
  have hq : CQ h (o0 + 42) X.1.2.2.1.1 X.1.2.2.1.2.1 X.1.2.2.1.2.2 := q5.cq
  have hw : spWtg X.1 = X.1.2.2.1.1.length - X.1.2.2.1.2.1 := rfl
  unfold G_waiting spDWaiting Qu_waitingCount
  rw [hq.2.1, hq.2.2.1, hq.1, pw (x := (X.1.2.2.1.1.length : Int) - (X.1.2.2.1.2.1 : Int)) (by omega) (by omega)]
  simp only [Option.bind_some]
  by_cases a1 : k < 0
  · rw [if_pos a1, if_neg (by omega)]
  rw [if_neg a1]
  by_cases a2 : k < (X.1.2.2.1.1.length : Int) - (X.1.2.2.1.2.1 : Int)
  rotate_left
  · rw [if_neg a2, if_neg (by omega)]
  rw [if_pos a2, pw (x := (X.1.2.2.1.2.1 : Int) + k) (by omega) (by omega)]
  have hlt : X.1.2.2.1.2.1 + k.toNat < X.1.2.2.1.1.length := by omega
  have hr := hq.2.2.2.2 _ _ (List.getElem?_eq_getElem hlt)
  have hd : X.1.2.2.1.1.drop (X.1.2.2.1.2.1 + k.toNat) = X.1.2.2.1.1[X.1.2.2.1.2.1 + k.toNat] :: X.1.2.2.1.1.drop (X.1.2.2.1.2.1 + k.toNat + 1) := List.drop_eq_getElem_cons hlt
  rw [hd]
  dsimp only [List.headD_cons]
  rw [show (X.1.2.2.1.2.1 : Int) + k = ((X.1.2.2.1.2.1 + k.toNat : Nat) : Int) by omega]
  by_cases f0 : f = 0
  · rw [if_pos f0, if_pos (by omega), if_pos f0, pw (by omega) (by omega)]
    congr 1
    omega
  rw [if_neg f0]
  by_cases f1 : f = 1
  · rw [if_pos f1, if_pos (by omega), if_neg f0, if_pos f1, g_cellN (by omega)]
    exact congrArg some hr.1
  rw [if_neg f1]
  by_cases f2 : f = 2
  · rw [if_pos f2, if_pos (by omega), if_neg f0, if_neg f1, if_pos f2, g_cellN (by omega)]
    exact congrArg some hr.2.1
  rw [if_neg f2]
  by_cases f3 : f = 3
  · rw [if_pos f3, if_pos (by omega), if_neg f0, if_neg f1, if_neg f2, g_cellN (by omega)]
    exact congrArg some hr.2.2.1
  rw [if_neg f3, if_neg (by omega)]
end WTG
