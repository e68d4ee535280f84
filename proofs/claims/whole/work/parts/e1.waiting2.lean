/-! the records that wait: the reference -/
section WTH
variable {ns blk len : Nat} {p : spPl} {X : spX} {b : Int}
theorem RM.waiting {h : jH} {o : Nat} {k f : Int} (hk : spXk ns blk len b X) (r : RM h o ns blk len p X) : M_waiting h o k f = some (spDWaiting k f X) := by
  have hi := hk.1.1.que
  obtain ⟨m, q1, q2, q3, q4, q5, q6⟩ := r.2
  have hq := q6.que
  have hmq := q6.mq
  have hw : spWtg X.1 = X.1.2.2.1.1.length - X.1.2.2.1.2.1 := rfl
  unfold M_waiting spDWaiting
  rw [if_pos (by decide), show ((11 : Int)).toNat = 11 from rfl, show ((1 : Int)).toNat = 1 from rfl, hq.2.2.1, hq.1, pw (x := (spWtg X.1 : Int) - 1) (by omega) (by omega), m_isIn]
  simp only [Option.bind_some]
  by_cases a1 : 0 ≤ k ∧ k ≤ (spWtg X.1 : Int) - 1
  rotate_left
  · rw [if_neg a1, if_pos rfl, if_neg (by omega)]
  rw [if_pos a1, if_neg (by decide), m_isIn]
  simp only [Option.bind_some]
  by_cases a2 : 0 ≤ f ∧ f ≤ 3
  rotate_left
  · rw [if_neg a2, if_pos rfl, if_neg (by omega)]
  rw [if_pos a2, if_neg (by decide), if_pos (by decide), if_pos (by decide)]
  rw [if_pos (show 0 ≤ k ∧ k < (spWtg X.1 : Int) ∧ 0 ≤ f ∧ f ≤ 3 by omega)]
  rw [pw (x := X.1.2.2.1.2.2 + (X.1.2.2.1.1.length : Int) - (spWtg X.1 : Int)) (by omega) (by omega), pw (x := X.1.2.2.1.2.2 + (X.1.2.2.1.1.length : Int) - (spWtg X.1 : Int) + k) (by omega) (by omega)]
  by_cases f0 : f = 0
  · rw [if_pos f0, if_pos f0]
    congr 1
    omega
  rw [if_neg f0, if_neg f0]
  have hlt : X.1.2.2.1.2.1 + k.toNat < X.1.2.2.1.1.length := by omega
  have hr := hmq.2.2.2.2.2 _ _ (List.getElem?_eq_getElem hlt)
  have hd : X.1.2.2.1.1.drop (X.1.2.2.1.2.1 + k.toNat) = X.1.2.2.1.1[X.1.2.2.1.2.1 + k.toNat] :: X.1.2.2.1.1.drop (X.1.2.2.1.2.1 + k.toNat + 1) := List.drop_eq_getElem_cons hlt
  rw [hd]
  dsimp only [List.headD_cons]
  rw [show X.1.2.2.1.2.2 + (X.1.2.2.1.1.length : Int) - (spWtg X.1 : Int) + k = X.1.2.2.1.2.2 + ((X.1.2.2.1.2.1 + k.toNat : Nat) : Int) by omega, pw (x := f - 1) (by omega) (by omega), show f - 1 = (((f - 1).toNat : Nat) : Int) by omega, m_recOf (by omega)]
  simp only [Option.bind_some]
  by_cases f1 : f = 1
  · subst f1
    rw [if_pos rfl]; exact congrArg some hr.1
  rw [if_neg f1]
  by_cases f2 : f = 2
  · subst f2
    rw [if_pos rfl]; exact congrArg some hr.2.1
  rw [if_neg f2]
  have f3 : f = 3 := by omega
  subst f3
  exact congrArg some hr.2.2.1
end WTH
