/-! what is kept, on both sides -/
def spDKept (k f : Int) (X : spX) : Int := if 0 ≤ k ∧ k < (X.1.2.2.2.1.2.length : Int) ∧ 0 ≤ f ∧ f ≤ 2 then (if f = 0 then ((X.1.2.2.2.1.2.drop k.toNat).headD (0, 0, 0)).1 else if f = 1 then ((X.1.2.2.2.1.2.drop k.toNat).headD (0, 0, 0)).2.1 else ((X.1.2.2.2.1.2.drop k.toNat).headD (0, 0, 0)).2.2) else -1
section KPT
variable {T : jT} {o0 pl ns blk len B : Nat} {p : spPl} {X : spX} {b : Int}
theorem CS.ck {h : jH} {o n : Nat} {s : spSt} (hs : CS h o ns blk len n s) : CKn h (o + 12) s.2.2.2.1.2 n := by
  obtain ⟨⟨D, C⟩, ⟨F, lf⟩, ⟨q, fl, first⟩, ⟨wt, kp⟩, ⟨tab, stab, snap, tops⟩, ⟨sg, at', ser, gr, hl, tk⟩⟩ := s
  exact hs.2.2.2.1.2
theorem RC.kept {h : jH} {k f : Int} (r : RC T h o0 pl ns blk len p B X) : G_kept h o0 k f = some (spDKept k f X) := by
  obtain ⟨_, c, n, q1, q2, q3, q4, q5, q6, q7⟩ := r
  have hc : CKn h (o0 + 47) X.1.2.2.2.1.2 n := q5.ck
  obtain ⟨c1, c2, c3, c4⟩ := hc
  unfold G_kept Wa_keptAt Wa_told spDKept
  rw [c1]
  simp only [Option.bind_some]
  by_cases a1 : k < 0
  · rw [if_pos a1, if_neg (by omega)]; rfl
  rw [if_neg a1]
  by_cases a2 : k < min (n : Int) 40
  rotate_left
  · rw [if_neg a2, if_neg (by omega)]; rfl
  rw [if_pos a2, pw (x := (n : Int) - min (n : Int) 40) (by omega) (by omega), pw (x := (n : Int) - min (n : Int) 40 + k) (by omega) (by omega), Int.tmod_eq_emod_of_nonneg (by omega)]
  have hlt : k.toNat < X.1.2.2.2.1.2.length := by omega
  have hr := c4 _ _ (List.getElem?_eq_getElem hlt)
  have hd : X.1.2.2.2.1.2.drop k.toNat = X.1.2.2.2.1.2[k.toNat] :: X.1.2.2.2.1.2.drop (k.toNat + 1) := List.drop_eq_getElem_cons hlt
  rw [hd]
  dsimp only [List.headD_cons]
  have hm : (n - X.1.2.2.2.1.2.length + k.toNat) % 40 < 40 := Nat.mod_lt _ (by decide)
  rw [show ((n : Int) - min (n : Int) 40 + k) % 40 = (((n - X.1.2.2.2.1.2.length + k.toNat) % 40 : Nat) : Int) by omega]
  by_cases f0 : f = 0
  · rw [if_pos f0, if_pos (by omega), if_pos f0, g_cellN hm]
    exact congrArg some hr.1
  rw [if_neg f0]
  by_cases f1 : f = 1
  · rw [if_pos f1, if_pos (by omega), if_neg f0, if_pos f1, g_cellN hm]
    exact congrArg some hr.2.1
  rw [if_neg f1]
  by_cases f2 : f = 2
  · rw [if_pos f2, if_pos (by omega), if_neg f0, if_neg f1, g_cellN hm]
    exact congrArg some hr.2.2
  rw [if_neg f2, if_neg (by omega)]
  rfl
theorem RM.kept {h : jH} {o : Nat} {k f : Int} (r : RM h o ns blk len p X) : M_kept h o k f = some (spDKept k f X) := by
  obtain ⟨m, q1, q2, q3, q4, q5, q6⟩ := r.2
  obtain ⟨c1, c2, c3⟩ := q6.kp
  unfold M_kept M_kept_p49 spDKept
  rw [if_pos (by decide), show ((2244 : Int)).toNat = 2244 from rfl, c1, pw (x := (X.1.2.2.2.1.2.length : Int) - 1) (by omega) (by omega), m_isIn]
  simp only [Option.bind_some]
  by_cases a1 : 0 ≤ k ∧ k ≤ (X.1.2.2.2.1.2.length : Int) - 1
  rotate_left
  · rw [if_neg a1, if_pos rfl, if_neg (by omega)]
  rw [if_pos a1, if_neg (by decide), m_isIn]
  simp only [Option.bind_some]
  by_cases a2 : 0 ≤ f ∧ f ≤ 2
  rotate_left
  · rw [if_neg a2, if_pos rfl, if_neg (by omega)]
  rw [if_pos a2, if_neg (by decide), if_pos (show 0 ≤ k ∧ k < (X.1.2.2.2.1.2.length : Int) ∧ 0 ≤ f ∧ f ≤ 2 by omega)]
  rw [pw (x := 3 * k) (by omega) (by omega), pw (x := 2245 + 3 * k) (by omega) (by omega), pw (x := 2245 + 3 * k + f) (by omega) (by omega), if_pos (by omega)]
  have hlt : k.toNat < X.1.2.2.2.1.2.length := by omega
  have hr := c3 _ _ (List.getElem?_eq_getElem hlt)
  have hd : X.1.2.2.2.1.2.drop k.toNat = X.1.2.2.2.1.2[k.toNat] :: X.1.2.2.2.1.2.drop (k.toNat + 1) := List.drop_eq_getElem_cons hlt
  rw [hd]
  dsimp only [List.headD_cons]
  by_cases f0 : f = 0
  · rw [if_pos f0, show (2245 + 3 * k + f).toNat = 2245 + 3 * k.toNat by omega, hr.1]
  rw [if_neg f0]
  by_cases f1 : f = 1
  · rw [if_pos f1, show (2245 + 3 * k + f).toNat = 2245 + 3 * k.toNat + 1 by omega, hr.2.1]
  rw [if_neg f1, show (2245 + 3 * k + f).toNat = 2245 + 3 * k.toNat + 2 by omega, hr.2.2]
end KPT
