/-! a rule tried by the class; the best rule, on both sides -/
section BES
variable {ns blk len : Nat} {b : Int} {p : spPl} {X : spX}
theorem RC.runBy {T : jT} {h : jH} {o0 pl B : Nat} {ru v2 : Int} (hv2 : 0 ≤ v2 ∧ v2 ≤ 1) (hp : spPp ns blk len p) (hB : B ≤ 1000000) (hk : spXk ns blk len b X) (r : RC T h o0 pl ns blk len p B X) : ∃ h', G_runByRule T h o0 ru v2 = some (spDRule p ru v2 X, h') ∧ RCf o0 pl h h' ∧ RC T h' o0 pl ns blk len p B X := by
  have hd := hk.dim
  have hi := hk.1.1.que
  have r0 := r
  obtain ⟨⟨r1, r2, r3, r4, r5, r6, r7⟩, c, k, q1, q2, q3, q4, q5, q6, q7⟩ := r
  have hq := q5.que
  have hno : ¬ (X.1.2.2.2.2.2.2.2.2.2.1 = false ∧ 1 ≤ ru ∧ ru ≤ 8 ∧ 0 ≤ v2 ∧ v2 ≤ 1) → ∃ h', (some ((-1 : Int), h)) = some (spDRule p ru v2 X, h') ∧ RCf o0 pl h h' ∧ RC T h' o0 pl ns blk len p B X := by
    intro hno
    unfold spDRule
    rw [if_neg hno]
    exact ⟨h, rfl, RCf.rf, r0⟩
  unfold G_runByRule
  rw [r0.told hd]
  simp only [Option.bind_some]
  rw [if_neg (by decide), hq.2.2.1]
  by_cases a3 : X.1.2.2.2.2.2.2.2.2.2.1 = true
  · rw [if_neg (by rw [if_pos a3]; decide)]; exact hno (fun h => by rw [a3] at h; cases h.1)
  have a3' : X.1.2.2.2.2.2.2.2.2.2.1 = false := by cases hq : X.1.2.2.2.2.2.2.2.2.2.1 with
    | true => exact absurd hq a3
    | false => rfl
  rw [if_pos (by rw [if_neg a3])]
  by_cases a1 : ru < 1
  · rw [if_pos a1]; exact hno (by omega)
  rw [if_neg a1]
  by_cases a2 : 8 < ru
  · rw [if_pos a2]; exact hno (by omega)
  rw [if_neg a2]
  unfold spDRule
  rw [if_pos ⟨a3', by omega, by omega, hv2.1, hv2.2⟩]
  obtain ⟨g, e1, e2, e3, e4⟩ := c_copyS (T := T) (a := o0 + 56) (b := o0 + 35) (by omega) r2 q7 q5 hk.1.1
  rw [e1]
  simp only [Option.bind_some]
  have q6' : k + spWtn X.1 ≤ B := q6
  obtain ⟨g2, x1, x2, x3⟩ := c_ruleL (T := T) (o0 := o0) (ru := ru.toNat) (v2 := v2) (by omega) hp r3 r2 100 0 0 g X.1 k (by omega) e3 hk.1 rfl (by omega) (CPl.eq r6 (fun z z1 z2 => e2 z (by omega))) e4 (Int.le_refl _) (by omega)
  rw [show (ru.toNat : Int) = ru by omega] at x1
  rw [show G_runByRule_L46 T g o0 ru v2 0 1 = _ from x1]
  exact ⟨g2, rfl, ⟨fun z _ _ z3 z4 => by rw [x2 z (by omega) (by omega) z3, e2 z (by omega)], fun f _ _ => by rw [x2 o0 (by omega) (by omega) (by omega), e2 o0 (by omega)]⟩, r0.same (fun z z1 z2 => by rw [x2 z (by omega) (by omega) z2, e2 z (by omega)]) x3⟩
theorem RC.rule {T : jT} {h : jH} {o0 pl B : Nat} {ru v2 : Int} (hp : spPp ns blk len p) (hB : B ≤ 1000000) (hk : spXk ns blk len b X) (r : RC T h o0 pl ns blk len p B X) : ∃ h', G_rule T h o0 ru v2 = some (spDRule p ru v2 X, h') ∧ RCf o0 pl h h' ∧ RC T h' o0 pl ns blk len p B X := by
  unfold G_rule G_rule_p9 G_rule_p21
  by_cases a0 : v2 = 0
  · subst a0
    rw [if_pos rfl, if_neg (by decide)]
    obtain ⟨g, e1, e2⟩ := r.runBy (ru := ru) (v2 := 0) (by decide) hp hB hk
    rw [e1]
    exact ⟨g, rfl, e2⟩
  rw [if_neg a0]
  by_cases a1 : v2 = 1
  · subst a1
    rw [if_pos rfl, if_pos rfl]
    obtain ⟨g, e1, e2⟩ := r.runBy (ru := ru) (v2 := 1) (by decide) hp hB hk
    rw [e1]
    exact ⟨g, rfl, e2⟩
  rw [if_neg a1]
  unfold spDRule
  rw [if_neg (by omega)]
  exact ⟨h, rfl, RCf.rf, r⟩
/-- the best of the rules from r on: which, and what it costs -/
def spBst (p : spPl) (X : spX) : Nat → Nat → Int → Int → Int × Int
  | 0, _, which, cost => (which, cost)
  | m + 1, r, which, cost => if spDRule p (r : Int) 1 X = -1 then spBst p X m (r + 1) which cost else if which = -1 ∨ spDRule p (r : Int) 1 X < cost then spBst p X m (r + 1) (r : Int) (spDRule p (r : Int) 1 X) else spBst p X m (r + 1) which cost
def spDBest (p : spPl) (v1 : Int) (X : spX) : Int := if v1 = 0 then (spBst p X 8 1 (-1) (-1)).1 else if v1 = 1 then (spBst p X 8 1 (-1) (-1)).2 else -1
theorem m_bestL {o : Nat} {v1 : Int} (hp : spPp ns blk len p) (hk : spXk ns blk len b X) : ∀ (m i : Nat) (h : jH) (w c : Int), i + m = 9 → RM h o ns blk len p X → ∃ h', M_best_L19 h o v1 w c (i : Int) = some ((if v1 = 0 then (spBst p X m i w c).1 else (spBst p X m i w c).2), h') ∧ RMf o h h' ∧ RM h' o ns blk len p X := by
  unfold M_best_L19
  intro m
  induction m with
  | zero =>
    intro i h w c hi r
    refine ⟨h, jloop_r ?_, RMf.rf, r⟩
    show M_best_B19 h o v1 w c (i : Int) = _
    unfold M_best_B19 spBst
    rw [if_pos (by omega)]
    dsimp only
    by_cases a : v1 = 0
    · rw [if_pos a, if_pos a]; rfl
    · rw [if_neg a, if_neg a]; rfl
  | succ m ih =>
    intro i h w c hi r
    obtain ⟨g, e1, e2, e3⟩ := r.rule (ru := (i : Int)) (v2 := 1) hp hk
    have step : ∀ (w' c' : Int), M_best_B19 h o v1 w c (i : Int) = some (.inl (w', c', ((i + 1 : Nat) : Int), g)) → spBst p X (m + 1) i w c = spBst p X m (i + 1) w' c' → ∃ h', jloop (fun s : (Int × Int × Int × jH) => M_best_B19 s.2.2.2 o v1 s.1 s.2.1 s.2.2.1) (w, c, (i : Int), h) = some ((if v1 = 0 then (spBst p X (m + 1) i w c).1 else (spBst p X (m + 1) i w c).2), h') ∧ RMf o h h' ∧ RM h' o ns blk len p X := by
      intro w' c' hB hs
      obtain ⟨h', x1, x2, x3⟩ := ih (i + 1) g w' c' (by omega) e3
      rw [hs]
      exact ⟨h', (jloop_l (s' := (w', c', ((i + 1 : Nat) : Int), g)) hB).trans x1, e2.tr x2, x3⟩
    have hB0 : M_best_B19 h o v1 w c (i : Int) = (if spDRule p (i : Int) 1 X = -1 then some (.inl (w, c, ((i + 1 : Nat) : Int), g)) else if w = -1 then some (.inl ((i : Int), spDRule p (i : Int) 1 X, ((i + 1 : Nat) : Int), g)) else if spDRule p (i : Int) 1 X < c then some (.inl ((i : Int), spDRule p (i : Int) 1 X, ((i + 1 : Nat) : Int), g)) else some (.inl (w, c, ((i + 1 : Nat) : Int), g))) := by
      unfold M_best_B19 M_best_p55
      rw [if_neg (by omega), e1]
      simp only [Option.bind_some]
      rw [pw (x := (i : Int) + 1) (by omega) (by omega)]
      rfl
    by_cases a1 : spDRule p (i : Int) 1 X = -1
    · exact step w c (by rw [hB0, if_pos a1]) (by rw [spBst, if_pos a1])
    by_cases a2 : w = -1 ∨ spDRule p (i : Int) 1 X < c
    · refine step (i : Int) (spDRule p (i : Int) 1 X) ?_ (by rw [spBst, if_neg a1, if_pos a2])
      rw [hB0, if_neg a1]
      by_cases a3 : w = -1
      · rw [if_pos a3]
      · rw [if_neg a3, if_pos (a2.resolve_left a3)]
    · refine step w c ?_ (by rw [spBst, if_neg a1, if_neg a2])
      rw [hB0, if_neg a1, if_neg (fun h => a2 (Or.inl h)), if_neg (fun h => a2 (Or.inr h))]
theorem RM.best {h : jH} {o : Nat} {v1 : Int} (hp : spPp ns blk len p) (hk : spXk ns blk len b X) (r : RM h o ns blk len p X) : ∃ h', M_best h o v1 = some (spDBest p v1 X, h') ∧ RMf o h h' ∧ RM h' o ns blk len p X := by
  unfold M_best spDBest
  rw [m_isIn]
  simp only [Option.bind_some]
  by_cases a : 0 ≤ v1 ∧ v1 ≤ 1
  rotate_left
  · rw [if_neg a, if_pos rfl, if_neg (by omega), if_neg (by omega)]
    exact ⟨h, rfl, RMf.rf, r⟩
  rw [if_pos a, if_neg (by decide)]
  obtain ⟨g, e1, e2⟩ := m_bestL (o := o) (v1 := v1) hp hk 8 1 h (-1) (-1) (by omega) r
  rw [show M_best_L19 h o v1 (-1) (-1) 1 = _ from e1]
  refine ⟨g, ?_, e2⟩
  by_cases b0 : v1 = 0
  · rw [if_pos b0, if_pos b0]
  · rw [if_neg b0, if_neg b0, if_pos (by omega)]
theorem c_bestL {T : jT} {o0 pl B : Nat} {v1 : Int} (hp : spPp ns blk len p) (hB : B ≤ 1000000) (hk : spXk ns blk len b X) : ∀ (m i : Nat) (h : jH) (w c : Int), i + m = 9 → (w = -1 ↔ c = -1) → RC T h o0 pl ns blk len p B X → ∃ h', G_best_L7 T h o0 v1 c w (i : Int) = some ((if v1 = 0 then (spBst p X m i w c).1 else if v1 = 1 then (spBst p X m i w c).2 else -1), h') ∧ RCf o0 pl h h' ∧ RC T h' o0 pl ns blk len p B X := by
  unfold G_best_L7
  intro m
  induction m with
  | zero =>
    intro i h w c hi hwc r
    refine ⟨h, jloop_r ?_, RCf.rf, r⟩
    show G_best_B7 T h o0 v1 c w (i : Int) = _
    unfold G_best_B7 spBst
    rw [if_pos (by omega)]
    dsimp only
    by_cases a : v1 = 0
    · rw [if_pos a, if_pos a]; rfl
    · rw [if_neg a, if_neg a]
      by_cases a2 : v1 = 1
      · rw [if_pos a2, if_pos a2]; rfl
      · rw [if_neg a2, if_neg a2]; rfl
  | succ m ih =>
    intro i h w c hi hwc r
    obtain ⟨g, e1, e2, e3⟩ := r.runBy (ru := (i : Int)) (v2 := 1) (by decide) hp hB hk
    have step : ∀ (w' c' : Int), (w' = -1 ↔ c' = -1) → G_best_B7 T h o0 v1 c w (i : Int) = some (.inl (c', w', ((i + 1 : Nat) : Int), g)) → spBst p X (m + 1) i w c = spBst p X m (i + 1) w' c' → ∃ h', jloop (fun s : (Int × Int × Int × jH) => G_best_B7 T s.2.2.2 o0 v1 s.1 s.2.1 s.2.2.1) (c, w, (i : Int), h) = some ((if v1 = 0 then (spBst p X (m + 1) i w c).1 else if v1 = 1 then (spBst p X (m + 1) i w c).2 else -1), h') ∧ RCf o0 pl h h' ∧ RC T h' o0 pl ns blk len p B X := by
      intro w' c' hwc' hB' hs
      obtain ⟨h', x1, x2, x3⟩ := ih (i + 1) g w' c' (by omega) hwc' e3
      rw [hs]
      exact ⟨h', (jloop_l (s' := (c', w', ((i + 1 : Nat) : Int), g)) hB').trans x1, e2.tr x2, x3⟩
    have hB0 : G_best_B7 T h o0 v1 c w (i : Int) = (if spDRule p (i : Int) 1 X = -1 then some (.inl (c, w, ((i + 1 : Nat) : Int), g)) else if c = -1 then some (.inl (spDRule p (i : Int) 1 X, (i : Int), ((i + 1 : Nat) : Int), g)) else if spDRule p (i : Int) 1 X < c then some (.inl (spDRule p (i : Int) 1 X, (i : Int), ((i + 1 : Nat) : Int), g)) else some (.inl (c, w, ((i + 1 : Nat) : Int), g))) := by
      unfold G_best_B7 G_best_p40
      rw [if_neg (by omega), e1]
      simp only [Option.bind_some]
      rw [pw (x := (i : Int) + 1) (by omega) (by omega)]
      rfl
    by_cases a1 : spDRule p (i : Int) 1 X = -1
    · exact step w c hwc (by rw [hB0, if_pos a1]) (by rw [spBst, if_pos a1])
    by_cases a2 : w = -1 ∨ spDRule p (i : Int) 1 X < c
    · refine step (i : Int) (spDRule p (i : Int) 1 X) ⟨fun h => by omega, fun h => absurd h a1⟩ ?_ (by rw [spBst, if_neg a1, if_pos a2])
      rw [hB0, if_neg a1]
      by_cases a3 : c = -1
      · rw [if_pos a3]
      · rw [if_neg a3, if_pos (a2.resolve_left (fun h => a3 (hwc.mp h)))]
    · refine step w c hwc ?_ (by rw [spBst, if_neg a1, if_neg a2])
      rw [hB0, if_neg a1, if_neg (fun h => a2 (Or.inl (hwc.mpr h))), if_neg (fun h => a2 (Or.inr h))]
theorem RC.best {T : jT} {h : jH} {o0 pl B : Nat} {v1 : Int} (hp : spPp ns blk len p) (hB : B ≤ 1000000) (hk : spXk ns blk len b X) (r : RC T h o0 pl ns blk len p B X) : ∃ h', G_best T h o0 v1 = some (spDBest p v1 X, h') ∧ RCf o0 pl h h' ∧ RC T h' o0 pl ns blk len p B X := by
  unfold G_best spDBest
  exact c_bestL (v1 := v1) hp hB hk 8 1 h (-1) (-1) (by omega) ⟨fun _ => rfl, fun _ => rfl⟩ r
end BES
