/-! a rule tried, on both sides -/
def spDRule (p : spPl) (ru v2 : Int) (X : spX) : Int := if X.1.2.2.2.2.2.2.2.2.2.1 = false ∧ 1 ≤ ru ∧ ru ≤ 8 ∧ 0 ≤ v2 ∧ v2 ≤ 1 then (if (spTill p ru.toNat (X.1.2.2.1.2.2 + (X.1.2.2.1.1.length : Int)) 100 0 0 X.1).1 = -1 then -1 else if v2 = 0 then (spTill p ru.toNat (X.1.2.2.1.2.2 + (X.1.2.2.1.1.length : Int)) 100 0 0 X.1).1 else (spTill p ru.toNat (X.1.2.2.1.2.2 + (X.1.2.2.1.1.length : Int)) 100 0 0 X.1).2) else -1
theorem spTick_q {s : spSt} {p : spPl} {rule : Nat} (hfl : s.2.2.1.2.1 ≤ s.2.2.1.1.length) : (spTick p rule s).1.2.2.1.2.2 + ((spTick p rule s).1.2.2.1.1.length : Int) = s.2.2.1.2.2 + (s.2.2.1.1.length : Int) ∧ (s.2.2.1.1.length : Int) - ((spTick p rule s).1.2.2.1.1.length : Int) = (spAcks s : Int) := by
  have h1 : (spTick p rule s).1.2.2.1.1 = (spFl1 s).1.2.2.1.1 ∧ (spTick p rule s).1.2.2.1.2.2 = (spFl1 s).1.2.2.1.2.2 := by
    unfold spTick spFl3 spFl2 spClo
    dsimp only
    split
    · split <;> exact ⟨rfl, rfl⟩
    · exact ⟨rfl, rfl⟩
  rw [h1.1, h1.2]
  obtain ⟨⟨D, C⟩, ⟨F, lf⟩, ⟨q, fl, first⟩, ⟨wt, kp⟩, ⟨tab, stab, snap, tops⟩, ⟨sg, at', ser, gr, hl, tk⟩⟩ := s
  dsimp only at hfl
  unfold spFl1 spAcks
  dsimp only
  by_cases a : F = []
  · rw [if_pos a, if_pos a]; dsimp only; exact ⟨rfl, by omega⟩
  · rw [if_neg a, if_neg a]
    by_cases c : lf - 1 ≤ 0
    · rw [if_pos c, if_pos c]; dsimp only; rw [List.length_drop]; exact ⟨by omega, by omega⟩
    · rw [if_neg c, if_neg c]; dsimp only; exact ⟨rfl, by omega⟩
section RUL
variable {ns blk len : Nat} {b : Int} {p : spPl} {X : spX}
theorem RM.rule {h : jH} {o : Nat} {ru v2 : Int} (hp : spPp ns blk len p) (hk : spXk ns blk len b X) (r : RM h o ns blk len p X) : ∃ h', M_rule h o ru v2 = some (spDRule p ru v2 X, h') ∧ RMf o h h' ∧ RM h' o ns blk len p X := by
  have hi := hk.1.1.que
  obtain ⟨m, q1, q2, q3, q4, q5, q6⟩ := r.2
  have hq := q6.que
  have hno : ¬ (X.1.2.2.2.2.2.2.2.2.2.1 = false ∧ 1 ≤ ru ∧ ru ≤ 8 ∧ 0 ≤ v2 ∧ v2 ≤ 1) → ∃ h', (some ((-1 : Int), h)) = some (spDRule p ru v2 X, h') ∧ RMf o h h' ∧ RM h' o ns blk len p X := by
    intro hno
    unfold spDRule
    rw [if_neg hno]
    exact ⟨h, rfl, RMf.rf, r⟩
  unfold M_rule
  rw [if_neg r.told, m_isIn]
  simp only [Option.bind_some]
  by_cases a1 : 1 ≤ ru ∧ ru ≤ 8
  rotate_left
  · rw [if_neg a1, if_pos rfl]; exact hno (by omega)
  rw [if_pos a1, if_neg (by decide), m_isIn]
  simp only [Option.bind_some]
  by_cases a2 : 0 ≤ v2 ∧ v2 ≤ 1
  rotate_left
  · rw [if_neg a2, if_pos rfl]; exact hno (by omega)
  rw [if_pos a2, if_neg (by decide), if_pos (by decide), show ((10 : Int)).toNat = 10 from rfl, hq.2.2.2.1]
  by_cases a3 : X.1.2.2.2.2.2.2.2.2.2.1 = true
  · rw [if_pos (by rw [if_pos a3])]; exact hno (fun h => by rw [a3] at h; cases h.1)
  have a3' : X.1.2.2.2.2.2.2.2.2.2.1 = false := by cases hq : X.1.2.2.2.2.2.2.2.2.2.1 with
    | true => exact absurd hq a3
    | false => rfl
  rw [if_neg (by rw [if_neg a3]; decide), if_pos (by decide), show ((1 : Int)).toNat = 1 from rfl]
  unfold spDRule
  rw [if_pos ⟨a3', a1.1, a1.2, a2.1, a2.2⟩]
  obtain ⟨g0, hg0⟩ : ∃ g0 : jH, g0 = jup h o 52 ru := ⟨_, rfl⟩
  rw [← hg0]
  have g0o : ∀ z, z ≠ o → g0 z = h z := fun z hz => by rw [hg0, jup_ne hz]
  have g0f : ∀ f, f ≠ 52 → g0 o f = h o f := fun f hf => by rw [hg0, ju_ne hf]
  rw [g0o (o + 33) (by omega), hq.1]
  obtain ⟨g, e1, e2, e3, e4, e5, e6, e7⟩ := m_till (rule := ru.toNat) (tgt := X.1.2.2.1.2.2 + (X.1.2.2.1.1.length : Int)) hp (q6.eq (g0o _ (by omega)) (g0o _ (by omega))) hk.1 (by rw [hg0, ju_eq, if_neg (by omega)]; omega) (r.1.2.2.2.2.1.eq (g0o _ (by omega)) (g0o _ (by omega)) (g0o _ (by omega))) (by rw [g0f 53 (by decide)]; exact r.1.2.2.2.1)
  rw [e1]
  simp only [Option.bind_some]
  obtain ⟨g2, hg2⟩ : ∃ g2 : jH, g2 = jup g o 52 (-1) := ⟨_, rfl⟩
  rw [← hg2]
  have g2o : ∀ z, z ≠ o → g2 z = g z := fun z hz => by rw [hg2, jup_ne hz]
  have g2f : ∀ f, f ≠ 52 → g2 o f = g o f := fun f hf => by rw [hg2, ju_ne hf]
  have fr : RMf o h g2 := ⟨fun z z1 _ z3 z4 z5 z6 _ _ z9 => by rw [g2o z z1, e2 z z1 z3 z4 z5 z6 z9, g0o z z1], fun f f1 f2 f3 f4 f5 f6 f7 f8 f9 _ _ _ f13 => by rw [g2f f f5, e3 f f1 f2 f3 f4 f6 f7 f8 f9 f13, g0f f f5]⟩
  have rr : RM g2 o ns blk len p X := r.same (fun z hz => by rw [g2o z (by omega), e2 z (by omega) (by omega) (by omega) (by omega) (by omega) (by omega), g0o z (by omega)]) (fun f hf => by rw [g2f f (by omega), e3 f (by omega) (by omega) (by omega) (by omega) (by omega) (by omega) (by omega) (by omega) (by omega), g0f f (by omega)]) (by rw [hg2, ju_eq]) (by rw [g2f 56 (by decide)]; exact e4) (by rw [g2f 53 (by decide)]; exact e7) (e5.eq (g2o _ (by omega)) (g2o _ (by omega)))
  refine ⟨g2, ?_, fr, rr⟩
  unfold M_rule_p72
  rw [g2f 54 (by decide), e6]
  by_cases b1 : (spTill p ru.toNat (X.1.2.2.1.2.2 + (X.1.2.2.1.1.length : Int)) 100 0 0 X.1).1 = -1
  · rw [if_pos b1, if_pos b1, b1]
  · rw [if_neg b1, if_neg b1]
    by_cases b2 : v2 = 0
    · rw [if_pos b2, if_pos b2]
    · rw [if_neg b2, if_neg b2]
theorem c_ruleL {T : jT} {o0 pl ru : Nat} {tgt v2 : Int} (hru : ru ≤ 8) (hp : spPp ns blk len p) (hpl : o0 + 4 < pl ∧ pl + 12 < o0 + 34) (hT : isX6 T pl) : ∀ (m v : Nat) (acc : Int) (h : jH) (s : spSt) (k : Nat), v + m = 100 → CS h (o0 + 56) ns blk len k s → spOK ns blk len b s → s.2.2.1.2.2 + (s.2.2.1.1.length : Int) = tgt → k + spWtn s ≤ 1000000 → CPl h pl p → h (o0 + 56) 0 = (pl : Int) → 0 ≤ acc → acc ≤ 1600 * (v : Int) →
    ∃ h', G_runByRule_L46 T h o0 (ru : Int) v2 acc ((v : Int) + 1) = some ((if (spTill p ru tgt m v acc s).1 = -1 then -1 else if v2 = 0 then (spTill p ru tgt m v acc s).1 else (spTill p ru tgt m v acc s).2), h') ∧ (∀ z, (z < o0 + 56 ∨ o0 + 76 < z) → z ≠ o0 + 78 → (z < pl + 1 ∨ pl + 8 < z) → h' z = h z) ∧ CPl h' pl p := by
  unfold G_runByRule_L46
  intro m
  induction m with
  | zero =>
    intro v acc h s k hv hs hI htg hk hP h0 ha ha2
    have hq := hs.que
    have e63 : h (o0 + 63) 6 = (s.2.2.1.1.length : Int) := hq.2.1
    refine ⟨h, jloop_r ?_, fun _ _ _ _ => rfl, hP⟩
    show G_runByRule_B46 T h o0 (ru : Int) v2 acc ((v : Int) + 1) = _
    unfold G_runByRule_B46 spTill
    rw [if_pos (by omega), e63]
    by_cases a : s.2.2.1.2.2 < tgt
    · rw [if_pos (show (0 : Int) < (s.2.2.1.1.length : Int) by omega)]
      dsimp only
      rw [if_pos a, if_pos rfl]
      rfl
    · rw [if_neg (show ¬ (0 : Int) < (s.2.2.1.1.length : Int) by omega)]
      dsimp only
      rw [if_neg a, if_neg (show ¬ ((v : Int) = -1) by omega)]
      by_cases b2 : v2 = 0
      · rw [if_pos b2, if_pos b2, show (v : Int) = 100 by omega]; rfl
      · rw [if_neg b2, if_neg b2]; rfl
  | succ m ih =>
    intro v acc h s k hv hs hI htg hk hP h0 ha ha2
    have hq := hs.que
    have hi := hI.1.que
    have e63 : h (o0 + 63) 6 = (s.2.2.1.1.length : Int) := hq.2.1
    unfold spTill
    by_cases a : s.2.2.1.2.2 < tgt
    rotate_left
    · rw [if_neg a]
      refine ⟨h, jloop_r ?_, fun _ _ _ _ => rfl, hP⟩
      show G_runByRule_B46 T h o0 (ru : Int) v2 acc ((v : Int) + 1) = _
      unfold G_runByRule_B46
      dsimp only
      rw [if_neg (by omega), e63, if_pos (show (s.2.2.1.1.length : Int) = 0 by omega), if_neg (show ¬ ((v : Int) = -1) by omega)]
      by_cases b2 : v2 = 0
      · rw [if_pos b2, if_pos b2, pw (by omega) (by omega), show (v : Int) + 1 - 1 = (v : Int) by omega]; rfl
      · rw [if_neg b2, if_neg b2]; rfl
    rw [if_pos a]
    by_cases a2 : spTkn s < 999
    rotate_left
    · rw [if_neg a2]
      refine ⟨h, jloop_r ?_, fun _ _ _ _ => rfl, hP⟩
      show G_runByRule_B46 T h o0 (ru : Int) v2 acc ((v : Int) + 1) = _
      unfold spTkn at a2
      unfold G_runByRule_B46
      dsimp only
      rw [if_neg (by omega), e63, if_neg (show ¬ ((s.2.2.1.1.length : Int) = 0) by omega), hq.2.2.2.2.2.2.2, if_neg a2, if_pos rfl]
      rfl
    rw [if_pos a2]
    have a2' := a2
    unfold spTkn at a2
    have htq := spTick_q (s := s) (p := p) (rule := ru) hi.2.2.2.1
    have hac := spAcks_le hI.1
    have hmul : (0 : Int) ≤ (spAcks s : Int) * ((v : Int) + 1) ∧ (spAcks s : Int) * ((v : Int) + 1) ≤ 1600 := by
      refine ⟨Int.mul_nonneg (by omega) (by omega), ?_⟩
      exact Int.le_trans (Int.mul_le_mul_of_nonneg_right (show (spAcks s : Int) ≤ 16 by omega) (by omega)) (by omega)
    obtain ⟨g, k1, e1, e2, e3, e4, e5, e6⟩ := c_tick (T := T) (o := o0 + 56) (pn := o0 + 78) (pl := pl) (rule := ru) hp.1 hp.2.1 hp.2.2.1 (by omega) (by omega) (by omega) hT h0 hP hp.2.2.2 hs hI.1 hk (by omega)
    have g63 : g (o0 + 63) 6 = ((spTick p ru s).1.2.2.1.1.length : Int) := e4.que.2.1
    obtain ⟨h', w1, w2, w3⟩ := ih (v + 1) (acc + (spAcks s : Int) * ((v : Int) + 1)) g (spTick p ru s).1 k1 (by omega) e4 ⟨spInv_tick hp.1 hp.2.1 hp.2.2.1 hI.1 (by omega), spHal_tick hI.2⟩ (by rw [htq.1]; exact htg) (by unfold spWtn at *; omega) e3 e5 (by omega) (by omega)
    rw [show ((v + 1 : Nat) : Int) + 1 = (v : Int) + 1 + 1 by omega] at w1
    refine ⟨h', (jloop_l (s' := (acc + (spAcks s : Int) * ((v : Int) + 1), (v : Int) + 1 + 1, g)) ?_).trans w1, fun z z1 z2 z3 => by rw [w2 z z1 z2 z3, e2 z (by omega) z2 z3], w3⟩
    show G_runByRule_B46 T h o0 (ru : Int) v2 acc ((v : Int) + 1) = _
    unfold G_runByRule_B46
    rw [if_neg (by omega), e63, if_neg (show ¬ ((s.2.2.1.1.length : Int) = 0) by omega), hq.2.2.2.2.2.2.2, if_pos a2, show St_passTick T h (o0 + 56) (o0 + 78) (ru : Int) = _ from e1]
    simp only [Option.bind_some]
    rw [g63, htq.2, pw (x := (spAcks s : Int)) (by omega) (by omega), show ((v : Int) + 1) * (spAcks s : Int) = (spAcks s : Int) * ((v : Int) + 1) from Int.mul_comm _ _]
    rw [pw (x := (spAcks s : Int) * ((v : Int) + 1)) (by omega) (by omega), pw (x := acc + (spAcks s : Int) * ((v : Int) + 1)) (by omega) (by omega), pw (x := (v : Int) + 1 + 1) (by omega) (by omega)]
end RUL
