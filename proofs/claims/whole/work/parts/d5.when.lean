/-! when a number is acknowledged, on both sides -/
def spDWhen (p : spPl) (num : Int) (X : spX) : Int := if 0 ≤ num ∧ num < X.1.2.2.1.2.2 + (X.1.2.2.1.1.length : Int) then (spTill p 0 (num + 1) 100 0 0 X.1).1 else -1
section WHN
variable {ns blk len : Nat} {b : Int} {p : spPl} {X : spX}
theorem m_till {h : jH} {o rule : Nat} {tgt : Int} {s : spSt} (hp : spPp ns blk len p) (hs : MS h o ns blk len s.2.2.2.1.2 s) (hI : spOK ns blk len b s) (h52 : h o 52 = (if rule = 0 then -1 else (rule : Int))) (hP : MPl h o p) (h53 : jI32 (h o 53)) :
    ∃ g', M_ticksTill h o tgt = some ((spTill p rule tgt 100 0 0 s).1, g') ∧ (∀ z, z ≠ o → z ≠ o + 33 → z ≠ o + 34 → z ≠ o + 35 → z ≠ o + 36 → z ≠ o + 67 → g' z = h z) ∧ (∀ f, f ≠ 44 → f ≠ 46 → f ≠ 47 → f ≠ 50 → f ≠ 53 → f ≠ 54 → f ≠ 55 → f ≠ 56 → f ≠ 105 → g' o f = h o f) ∧ g' o 56 = 0 ∧ MS g' o ns blk len s.2.2.2.1.2 s ∧ g' o 54 = (spTill p rule tgt 100 0 0 s).2 ∧ jI32 (g' o 53) := by
  unfold M_ticksTill
  obtain ⟨g1, hg1⟩ : ∃ g1 : jH, g1 = jup (jup h o 55 0) o 54 0 := ⟨_, rfl⟩
  rw [← hg1]
  have g1o : ∀ z, z ≠ o → g1 z = h z := fun z hz => by rw [hg1, jup_ne hz, jup_ne hz]
  have g1f : ∀ f, f ≠ 54 → f ≠ 55 → g1 o f = h o f := fun f f1 f2 => by rw [hg1, ju_ne f1, ju_ne f2]
  obtain ⟨g, e1, e2, e3, e4, e5⟩ := m_aside (h := g1) (o := o)
  rw [e1]
  simp only [Option.bind_some]
  have t : RT h g o ns blk len s s := ⟨fun i hi => by rw [e5 i hi, g1o _ (by omega)], hs.eq (by rw [e2 _ (by omega) (by omega), g1o _ (by omega)]) (by rw [e2 _ (by omega) (by omega), g1o _ (by omega)]), by rw [e2 _ (by omega) (by omega), g1o _ (by omega)]⟩
  obtain ⟨g', w1, w2, w3, w4⟩ := m_tillL (tgt := tgt) hp hs hI.1 100 0 0 g s (by omega) t hI (by rw [e3 52 (by decide), g1f 52 (by decide) (by decide)]; exact h52) e4 (hP.eq (by rw [e2 _ (by omega) (by omega), g1o _ (by omega)]) (by rw [e2 _ (by omega) (by omega), g1o _ (by omega)]) (by rw [e2 _ (by omega) (by omega), g1o _ (by omega)])) (by rw [e3 53 (by decide), g1f 53 (by decide) (by decide)]; exact h53) (by rw [e3 55 (by decide), hg1, ju_ne (by decide), ju_eq]; rfl) (by rw [e3 54 (by decide), hg1, ju_eq]) (Int.le_refl _) (by omega)
  exact ⟨g', w1, fun z z1 z2 z3 z4 z5 z6 => by rw [w2 z z1 z2 z3 z4 z6, e2 z z1 z5, g1o z z1], fun f f1 f2 f3 f4 f5 f6 f7 f8 f9 => by rw [w3 f f1 f2 f3 f4 f5 f6 f7 f8 f9, e3 f f8, g1f f f6 f7], w4⟩
theorem RM.when {h : jH} {o : Nat} {num : Int} (hp : spPp ns blk len p) (hk : spXk ns blk len b X) (r : RM h o ns blk len p X) : ∃ h', M_when h o num = some (spDWhen p num X, h') ∧ RMf o h h' ∧ RM h' o ns blk len p X := by
  have hi := hk.1.1.que
  obtain ⟨m, q1, q2, q3, q4, q5, q6⟩ := r.2
  have hq := q6.que
  unfold M_when M_when_p35 spDWhen
  rw [if_neg r.told, if_pos (by decide), show ((1 : Int)).toNat = 1 from rfl, hq.1, pw (x := X.1.2.2.1.2.2 + (X.1.2.2.1.1.length : Int) - 1) (by omega) (by omega), m_isIn]
  simp only [Option.bind_some]
  by_cases a : 0 ≤ num ∧ num < X.1.2.2.1.2.2 + (X.1.2.2.1.1.length : Int)
  rotate_left
  · rw [if_neg (show ¬ (0 ≤ num ∧ num ≤ X.1.2.2.1.2.2 + (X.1.2.2.1.1.length : Int) - 1) by omega), if_neg a, if_pos rfl]
    exact ⟨h, rfl, RMf.rf, r⟩
  rw [if_pos (show 0 ≤ num ∧ num ≤ X.1.2.2.1.2.2 + (X.1.2.2.1.1.length : Int) - 1 by omega), if_pos a, if_neg (by decide), pw (by omega) (by omega)]
  obtain ⟨g, e1, e2, e3, e4, e5, e6, e7⟩ := m_till (rule := 0) (tgt := num + 1) hp q6 hk.1 (by rw [r.1.2.1, if_pos rfl]) r.1.2.2.2.2.1 r.1.2.2.2.1
  rw [e1]
  simp only [Option.bind_some]
  exact ⟨g, rfl, ⟨fun z z1 _ z3 z4 z5 z6 _ _ z9 => e2 z z1 z3 z4 z5 z6 z9, fun f f1 f2 f3 f4 _ f6 f7 f8 f9 _ _ _ f13 => e3 f f1 f2 f3 f4 f6 f7 f8 f9 f13⟩, r.same (fun z hz => e2 z (by omega) (by omega) (by omega) (by omega) (by omega) (by omega)) (fun f hf => e3 f (by omega) (by omega) (by omega) (by omega) (by omega) (by omega) (by omega) (by omega) (by omega)) (by rw [e3 52 (by decide) (by decide) (by decide) (by decide) (by decide) (by decide) (by decide) (by decide) (by decide)]; exact r.1.2.1) e4 e7 e5⟩
theorem c_whenL {T : jT} {o0 pl : Nat} {num : Int} (hp : spPp ns blk len p) (hpl : o0 + 4 < pl ∧ pl + 12 < o0 + 34) (hT : isX6 T pl) : ∀ (m v : Nat) (acc : Int) (h : jH) (s : spSt) (k : Nat), v + m = 100 → CS h (o0 + 56) ns blk len k s → spOK ns blk len b s → k + spWtn s ≤ 1000000 → CPl h pl p → h (o0 + 56) 0 = (pl : Int) →
    ∃ h', G_when_L33 T h o0 num (v : Int) = some ((spTill p 0 (num + 1) m v acc s).1, h') ∧ (∀ z, (z < o0 + 56 ∨ o0 + 76 < z) → z ≠ o0 + 78 → (z < pl + 1 ∨ pl + 8 < z) → h' z = h z) ∧ CPl h' pl p := by
  unfold G_when_L33
  have tick : ∀ (v : Nat) (h : jH) (s : spSt) (k : Nat), v ≤ 100 → CS h (o0 + 56) ns blk len k s → spOK ns blk len b s → k + spWtn s ≤ 1000000 → CPl h pl p → h (o0 + 56) 0 = (pl : Int) → ¬ num < s.2.2.1.2.2 → spTkn s < 999 → ∃ g k1, G_when_B33 T h o0 num (v : Int) = some (.inl (((v + 1 : Nat) : Int), g)) ∧ (∀ z, (z < o0 + 56 ∨ o0 + 76 < z) → z ≠ o0 + 78 → (z < pl + 1 ∨ pl + 8 < z) → g z = h z) ∧ CPl g pl p ∧ CS g (o0 + 56) ns blk len k1 (spTick p 0 s).1 ∧ g (o0 + 56) 0 = (pl : Int) ∧ k1 + spWtn (spTick p 0 s).1 = k + spWtn s ∧ spOK ns blk len b (spTick p 0 s).1 := by
    intro v h s k hv hs hI hk hP h0 a a2
    have hq := hs.que
    unfold spTkn at a2
    obtain ⟨g, k1, e1, e2, e3, e4, e5, e6⟩ := c_tick (T := T) (o := o0 + 56) (pn := o0 + 78) (pl := pl) (rule := 0) hp.1 hp.2.1 hp.2.2.1 (by omega) (by omega) (by omega) hT h0 hP hp.2.2.2 hs hI.1 hk (by omega)
    refine ⟨g, k1, ?_, fun z z1 z2 z3 => e2 z (by omega) z2 z3, e3, e4, e5, e6, spInv_tick hp.1 hp.2.1 hp.2.2.1 hI.1 (by omega), spHal_tick hI.2⟩
    have e63 : h (o0 + 63) 4 = s.2.2.1.2.2 := hq.1
    unfold G_when_B33
    rw [if_neg (by omega), e63, if_neg a, hq.2.2.2.2.2.2.2, if_pos a2, show St_passTick T h (o0 + 56) (o0 + 78) 0 = _ from e1]
    simp only [Option.bind_some]
    rw [pw (by omega) (by omega)]
    rfl
  intro m
  induction m with
  | zero =>
    intro v acc h s k hv hs hI hk hP h0
    have hq := hs.que
    have e63 : h (o0 + 63) 4 = s.2.2.1.2.2 := hq.1
    unfold spTill
    by_cases a : num < s.2.2.1.2.2
    · rw [if_neg (by omega)]
      refine ⟨h, jloop_r ?_, fun _ _ _ _ => rfl, hP⟩
      show G_when_B33 T h o0 num (v : Int) = _
      unfold G_when_B33
      rw [if_neg (by omega), e63, if_pos a]
      rfl
    · rw [if_pos (by omega)]
      by_cases a2 : spTkn s < 999
      · obtain ⟨g, k1, e1, e2, e3, e4⟩ := tick v h s k (by omega) hs hI hk hP h0 a a2
        refine ⟨g, (jloop_l (s' := (((v + 1 : Nat) : Int), g)) e1).trans (jloop_r ?_), e2, e3⟩
        show G_when_B33 T g o0 num ((v + 1 : Nat) : Int) = _
        unfold G_when_B33
        rw [if_pos (by omega)]
        rfl
      · refine ⟨h, jloop_r ?_, fun _ _ _ _ => rfl, hP⟩
        show G_when_B33 T h o0 num (v : Int) = _
        unfold spTkn at a2
        unfold G_when_B33
        rw [if_neg (by omega), e63, if_neg a, hq.2.2.2.2.2.2.2, if_neg a2]
        rfl
  | succ m ih =>
    intro v acc h s k hv hs hI hk hP h0
    have hq := hs.que
    have e63 : h (o0 + 63) 4 = s.2.2.1.2.2 := hq.1
    unfold spTill
    by_cases a : num < s.2.2.1.2.2
    · rw [if_neg (by omega)]
      refine ⟨h, jloop_r ?_, fun _ _ _ _ => rfl, hP⟩
      show G_when_B33 T h o0 num (v : Int) = _
      unfold G_when_B33
      rw [if_neg (by omega), e63, if_pos a]
      rfl
    · rw [if_pos (by omega)]
      by_cases a2 : spTkn s < 999
      · rw [if_pos a2]
        obtain ⟨g, k1, e1, e2, e3, e4, e5, e6, e7⟩ := tick v h s k (by omega) hs hI hk hP h0 a a2
        obtain ⟨h', w1, w2, w3⟩ := ih (v + 1) (acc + (spAcks s : Int) * ((v : Int) + 1)) g (spTick p 0 s).1 k1 (by omega) e4 e7 (by omega) e3 e5
        exact ⟨h', (jloop_l (s' := (((v + 1 : Nat) : Int), g)) e1).trans w1, fun z z1 z2 z3 => by rw [w2 z z1 z2 z3, e2 z z1 z2 z3], w3⟩
      · rw [if_neg a2]
        refine ⟨h, jloop_r ?_, fun _ _ _ _ => rfl, hP⟩
        show G_when_B33 T h o0 num (v : Int) = _
        unfold spTkn at a2
        unfold G_when_B33
        rw [if_neg (by omega), e63, if_neg a, hq.2.2.2.2.2.2.2, if_neg a2]
        rfl
theorem RC.when {T : jT} {h : jH} {o0 pl B : Nat} {num : Int} (hp : spPp ns blk len p) (hB : B ≤ 1000000) (hk : spXk ns blk len b X) (r : RC T h o0 pl ns blk len p B X) : ∃ h', G_when T h o0 num = some (spDWhen p num X, h') ∧ RCf o0 pl h h' ∧ RC T h' o0 pl ns blk len p B X := by
  have hi := hk.1.1.que
  have r0 := r
  obtain ⟨⟨r1, r2, r3, r4, r5, r6, r7⟩, c, k, q1, q2, q3, q4, q5, q6, q7⟩ := r
  have hq := q5.que
  have e42 : h (o0 + 42) 4 = X.1.2.2.1.2.2 := hq.1
  have e46 : h (o0 + 42) 6 = (X.1.2.2.1.1.length : Int) := hq.2.1
  unfold G_when spDWhen
  by_cases a1 : num < 0
  · rw [if_pos a1, if_neg (by omega)]
    exact ⟨h, rfl, RCf.rf, r0⟩
  rw [if_neg a1]
  unfold Qu_behindLast
  rw [e42, e46, pw (by omega) (by omega)]
  simp only [Option.bind_some]
  by_cases a2 : num < X.1.2.2.1.2.2 + (X.1.2.2.1.1.length : Int)
  rotate_left
  · rw [if_neg a2, if_neg (by omega)]
    exact ⟨h, rfl, RCf.rf, r0⟩
  rw [if_pos a2, if_pos ⟨by omega, a2⟩]
  obtain ⟨g, e1, e2, e3, e4⟩ := c_copyS (T := T) (a := o0 + 56) (b := o0 + 35) (by omega) r2 q7 q5 hk.1.1
  rw [e1]
  simp only [Option.bind_some]
  have q6' : k + spWtn X.1 ≤ B := q6
  obtain ⟨g2, x1, x2, x3⟩ := c_whenL (T := T) (o0 := o0) (num := num) hp r3 r2 100 0 0 g X.1 k (by omega) e3 hk.1 (by omega) (CPl.eq r6 (fun z z1 z2 => e2 z (by omega))) e4
  rw [show G_when_L33 T g o0 num 0 = _ from x1]
  exact ⟨g2, rfl, ⟨fun z _ _ z3 z4 => by rw [x2 z (by omega) (by omega) z3, e2 z (by omega)], fun f _ _ => by rw [x2 o0 (by omega) (by omega) (by omega), e2 o0 (by omega)]⟩, r0.same (fun z z1 z2 => by rw [x2 z (by omega) (by omega) z2, e2 z (by omega)]) x3⟩
end WHN
