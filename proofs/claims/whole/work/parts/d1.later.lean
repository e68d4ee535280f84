/-! what is later, on both sides -/
def spDLater (p : spPl) (n v2 : Int) (X : spX) : Int := if 0 ≤ n ∧ n ≤ 100 ∧ spTkn X.1 + n ≤ 999 then (if v2 = 0 then (spTks p n.toNat X.1).2.2.1.2.2 else if v2 = 1 then (spWtg (spTks p n.toNat X.1) : Int) else if v2 = 2 then ((spTks p n.toNat X.1).2.1.1.length : Int) else -1) else -1
section LAT
variable {ns blk len : Nat} {b : Int} {p : spPl} {X : spX}
theorem RC.same {T : jT} {h h' : jH} {o0 pl B : Nat} (r : RC T h o0 pl ns blk len p B X) (e : ∀ z, (z < o0 + 56 ∨ o0 + 84 < z) → (z < pl + 1 ∨ pl + 8 < z) → h' z = h z) (hP : CPl h' pl p) : RC T h' o0 pl ns blk len p B X := by
  have r0 := r
  obtain ⟨⟨r1, r2, r3, r4, r5, r6, r7⟩, c, k, q1, q2, q3, q4, q5, q6, q7⟩ := r
  exact r0.set (s' := X.1) (Nat.le_refl _) (fun z z1 z2 => e z (by omega) z2) hP (q5.eq (fun z z1 z2 => e z (by omega) (by omega))) q6 (by rw [e _ (by omega) (by omega)]; exact q7)
theorem c_laterL {T : jT} {o0 pl n : Nat} {v2 : Int} (hp : spPp ns blk len p) (hpl : o0 + 4 < pl ∧ pl + 12 < o0 + 34) (hT : isX6 T pl) : ∀ (m i : Nat) (h : jH) (s : spSt) (k : Nat), i + m = n → CS h (o0 + 56) ns blk len k s → spOK ns blk len b s → k + spWtn s ≤ 1000000 → CPl h pl p → h (o0 + 56) 0 = (pl : Int) → spTkn s + (m : Int) ≤ 999 → n ≤ 100 →
    ∃ h', G_later_L47 T h o0 (n : Int) v2 (i : Int) = some ((if v2 = 0 then (spTks p m s).2.2.1.2.2 else if v2 = 1 then (spWtg (spTks p m s) : Int) else if v2 = 2 then ((spTks p m s).2.1.1.length : Int) else -1), h') ∧ (∀ z, (z < o0 + 56 ∨ o0 + 76 < z) → z ≠ o0 + 78 → (z < pl + 1 ∨ pl + 8 < z) → h' z = h z) ∧ CPl h' pl p := by
  unfold G_later_L47
  intro m
  induction m with
  | zero =>
    intro i h s k hi hs hI hk hP h0 ht hn
    have hq := hs.que
    have hq2 := hI.1.que
    refine ⟨h, jloop_x ?_, fun _ _ _ _ => rfl, hP⟩
    show G_later_B47 T h o0 (n : Int) v2 (i : Int) = Option.map Sum.inr (some ((if v2 = 0 then s.2.2.1.2.2 else if v2 = 1 then (spWtg s : Int) else if v2 = 2 then (s.2.1.1.length : Int) else -1), h))
    unfold G_later_B47
    rw [if_neg (by omega)]
    have e4 : h (o0 + 63) 4 = s.2.2.1.2.2 := hq.1
    have e2 : h (o0 + 60) 2 = (s.2.1.1.length : Int) := hq.2.2.2.2.1
    have ew : Qu_waitingCount h (o0 + 63) = some (spWtg s : Int) := by
      obtain ⟨⟨D, C⟩, ⟨F, lf⟩, ⟨q, fl, first⟩, ⟨wt, kp⟩, ⟨tab, stab, snap, tops⟩, ⟨sg, at', ser, gr, hl, tk⟩⟩ := s
      have c3 := hs.2.2.1
      have e5 : h (o0 + 63) 5 = (fl : Int) := c3.2.1
      have e6 : h (o0 + 63) 6 = (q.length : Int) := c3.2.2.1
      dsimp only at hq2
      unfold Qu_waitingCount
      rw [e5, e6, pw (by omega) (by omega)]
      show some ((q.length : Int) - (fl : Int)) = some ((q.length - fl : Nat) : Int)
      congr 1
      omega
    rw [e4, e2, ew]
    by_cases a0 : v2 = 0
    · rw [if_pos a0, if_pos a0]
    rw [if_neg a0, if_neg a0]
    by_cases a1 : v2 = 1
    · rw [if_pos a1, if_pos a1]; rfl
    rw [if_neg a1, if_neg a1]
    by_cases a2 : v2 = 2
    · rw [if_pos a2, if_pos a2]
    rw [if_neg a2, if_neg a2]
  | succ m ih =>
    intro i h s k hi hs hI hk hP h0 ht hn
    have e := spTick_tk (s := s) (p := p) (rule := 0)
    have ht2 : s.2.2.2.2.2.2.2.2.2.2 ≤ 998 := by unfold spTkn at ht; omega
    have hI2 : spOK ns blk len b (spTick p 0 s).1 := ⟨spInv_tick hp.1 hp.2.1 hp.2.2.1 hI.1 ht2, spHal_tick hI.2⟩
    obtain ⟨g, k1, e1, e2, e3, e4, e5, e6⟩ := c_tick (T := T) (o := o0 + 56) (pn := o0 + 78) (pl := pl) (rule := 0) hp.1 hp.2.1 hp.2.2.1 (by omega) (by omega) (by omega) hT h0 hP hp.2.2.2 hs hI.1 hk (by omega)
    obtain ⟨h', w1, w2, w3⟩ := ih (i + 1) g (spTick p 0 s).1 k1 (by omega) e4 hI2 (by unfold spWtn at *; omega) e3 e5 (by unfold spTkn at *; omega) hn
    refine ⟨h', (jloop_l (s' := (((i + 1 : Nat) : Int), g)) ?_).trans w1, fun z z1 z2 z3 => by rw [w2 z z1 z2 z3, e2 z (by omega) z2 z3], w3⟩
    show G_later_B47 T h o0 (n : Int) v2 (i : Int) = _
    unfold G_later_B47
    rw [if_pos (by omega), show St_passTick T h (o0 + 56) (o0 + 78) 0 = _ from e1]
    simp only [Option.bind_some]
    rw [pw (by omega) (by omega)]
    rfl
theorem RC.later {T : jT} {h : jH} {o0 pl B : Nat} {n v2 : Int} (hn32 : jI32 n) (hp : spPp ns blk len p) (hB : B ≤ 1000000) (hk : spXk ns blk len b X) (r : RC T h o0 pl ns blk len p B X) : ∃ h', G_later T h o0 n v2 = some (spDLater p n v2 X, h') ∧ RCf o0 pl h h' ∧ RC T h' o0 pl ns blk len p B X := by
  have hd := hk.dim
  have hi := hk.1.1.que
  have r0 := r
  obtain ⟨⟨r1, r2, r3, r4, r5, r6, r7⟩, c, k, q1, q2, q3, q4, q5, q6, q7⟩ := r
  have hq := q5.que
  have hno : ¬ (0 ≤ n ∧ n ≤ 100 ∧ spTkn X.1 + n ≤ 999) → ∃ h', (some ((-1 : Int), h)) = some (spDLater p n v2 X, h') ∧ RCf o0 pl h h' ∧ RC T h' o0 pl ns blk len p B X := by
    intro hno
    unfold spDLater
    rw [if_neg hno]
    exact ⟨h, rfl, RCf.rf, r0⟩
  unfold G_later
  rw [r0.told hd]
  simp only [Option.bind_some]
  rw [if_neg (by decide)]
  by_cases a1 : n < 0
  · rw [if_pos a1]; exact hno (by omega)
  rw [if_neg a1]
  by_cases a2 : 100 < n
  · rw [if_pos a2]; exact hno (by omega)
  rw [if_neg a2, hq.2.2.2.2.2.2.2, pw (by omega) (by omega)]
  by_cases a3 : 999 < X.1.2.2.2.2.2.2.2.2.2.2 + n
  · rw [if_pos a3]; exact hno (by unfold spTkn; omega)
  rw [if_neg a3]
  unfold spDLater
  rw [if_pos ⟨by omega, by omega, by unfold spTkn; omega⟩]
  obtain ⟨g, e1, e2, e3, e4⟩ := c_copyS (T := T) (a := o0 + 56) (b := o0 + 35) (by omega) r2 q7 q5 hk.1.1
  rw [e1]
  simp only [Option.bind_some]
  have q6' : k + spWtn X.1 ≤ B := q6
  obtain ⟨g2, x1, x2, x3⟩ := c_laterL (T := T) (o0 := o0) (n := n.toNat) (v2 := v2) hp r3 r2 n.toNat 0 g X.1 k (by omega) e3 hk.1 (by omega) (CPl.eq r6 (fun z z1 z2 => e2 z (by omega))) e4 (by unfold spTkn; omega) (by omega)
  rw [show (n.toNat : Int) = n by omega] at x1
  rw [show G_later_L47 T g o0 n v2 0 = _ from x1]
  refine ⟨g2, rfl, ⟨fun z _ _ z3 z4 => by rw [x2 z (by omega) (by omega) z3, e2 z (by omega)], fun f _ _ => by rw [x2 o0 (by omega) (by omega) (by omega), e2 o0 (by omega)]⟩, r0.same (fun z z1 z2 => by rw [x2 z (by omega) (by omega) z2, e2 z (by omega)]) x3⟩
theorem RM.later {h : jH} {o : Nat} {n v2 : Int} (hn32 : jI32 n) (hp : spPp ns blk len p) (hk : spXk ns blk len b X) (r : RM h o ns blk len p X) : ∃ h', M_later h o n v2 = some (spDLater p n v2 X, h') ∧ RMf o h h' ∧ RM h' o ns blk len p X := by
  have hi := hk.1.1.que
  obtain ⟨m, q1, q2, q3, q4, q5, q6⟩ := r.2
  have hq := q6.que
  have hah : M_isAhead h o n 0 100 = some (if 0 ≤ n ∧ n ≤ 100 ∧ spTkn X.1 + n ≤ 999 then 1 else 0) := by
    unfold M_isAhead M_isAhead_p37
    rw [if_neg r.told, m_isIn]
    simp only [Option.bind_some]
    by_cases a1 : 0 ≤ n ∧ n ≤ 100
    rotate_left
    · rw [if_neg a1, if_pos rfl, if_neg (by omega)]
    rw [if_pos a1, if_neg (by decide), if_pos (by decide), show ((0 : Int)).toNat = 0 from rfl, hq.2.2.2.2.2.2.2.2.2, pw (by omega) (by omega)]
    unfold spTkn
    by_cases a3 : 999 < X.1.2.2.2.2.2.2.2.2.2.2 + n
    · rw [if_pos a3, if_neg (by omega)]
    · rw [if_neg a3, if_pos (by omega)]
  unfold M_later spDLater
  rw [hah]
  simp only [Option.bind_some]
  by_cases a : 0 ≤ n ∧ n ≤ 100 ∧ spTkn X.1 + n ≤ 999
  rotate_left
  · rw [if_neg a, if_neg a, if_pos rfl]
    exact ⟨h, rfl, RMf.rf, r⟩
  rw [if_pos a, if_pos a, if_neg (by decide), m_isIn]
  simp only [Option.bind_some]
  by_cases a2 : 0 ≤ v2 ∧ v2 ≤ 2
  rotate_left
  · rw [if_neg a2, if_pos rfl, if_neg (by omega), if_neg (by omega), if_neg (by omega)]
    exact ⟨h, rfl, RMf.rf, r⟩
  rw [if_pos a2, if_neg (by decide)]
  obtain ⟨g, e1, e2, e3, e4, e5⟩ := r.aside
  rw [e1]
  simp only [Option.bind_some]
  have hw8 := hk.1.1.wt8
  unfold M_ticksGo
  obtain ⟨g1, hg1⟩ : ∃ g1 : jH, g1 = jup g o 53 0 := ⟨_, rfl⟩
  rw [← hg1]
  have g1o : ∀ z, z ≠ o → g1 z = g z := fun z hz => by rw [hg1, jup_ne hz]
  have g1f : ∀ f, f ≠ 53 → g1 o f = g o f := fun f hf => by rw [hg1, ju_ne hf]
  have hP1 : MPl g1 o p := r.1.2.2.2.2.1.eq (by rw [g1o _ (by omega), e2 _ (by omega) (by omega)]) (by rw [g1o _ (by omega), e2 _ (by omega) (by omega)]) (by rw [g1o _ (by omega), e2 _ (by omega) (by omega)])
  obtain ⟨g2, x1, x2, x3, x4⟩ := m_tksL (o := o) (n := n.toNat) (th := 1) (w0 := (spWtn X.1 : Int)) hp (Or.inr rfl) (by unfold spWtn; omega) n.toNat 0 g1 X.1 _ (by omega) (e5.2.1.eq (g1o _ (by omega)) (g1o _ (by omega))) hk.1 (by rw [g1f _ (by decide), e3 _ (by decide)]; exact r.1.2.1) (by rw [g1f _ (by decide)]; exact e4) (fun z => by cases z) hP1 (by rw [hg1, ju_eq]; omega) (Int.le_refl _) (by omega) (by omega)
  rw [show (n.toNat : Int) = n by omega] at x1
  rw [show M_ticksGo_L7 g1 o n 0 = _ from x1]
  simp only [Option.bind_some]
  rw [if_neg (by decide)] at x3
  have zo : ∀ z, z ≠ o → z ≠ o + 33 → z ≠ o + 34 → z ≠ o + 35 → z ≠ o + 67 → g2 z = g z := fun z z1 z2 z3 z4 z5 => by rw [x2.1 z z1 z2 z3 z4 z5, g1o z z1]
  have fo : ∀ f, f ≠ 44 → f ≠ 46 → f ≠ 47 → f ≠ 50 → f ≠ 53 → f ≠ 54 → f ≠ 55 → f ≠ 105 → g2 o f = g o f := fun f f1 f2 f3 f4 f5 f6 f7 f8 => by rw [x2.2 f f1 f2 f3 f4 f5 f6 f7 f8, g1f f f5]
  have t2 : RT h g2 o ns blk len X.1 (spTks p n.toNat X.1) := ⟨fun i hi => by rw [zo _ (by omega) (by omega) (by omega) (by omega) (by omega)]; exact e5.1 i hi, x3, by rw [zo _ (by omega) (by omega) (by omega) (by omega) (by omega)]; exact e5.2.2⟩
  obtain ⟨g3, y1, y2, y3, y4, y5⟩ := t2.back q6 hk.1.1
  have hq2 := x3.que
  have fin : ∀ w : Int, M_later_p68 g2 o w = some (w, g3) := fun w => by
    unfold M_later_p68
    rw [y1]
    rfl
  refine ⟨g3, ?_, ⟨fun z z1 _ z3 z4 z5 z6 _ _ z9 => by rw [y2 z z1 z3, zo z z1 z3 z4 z5 z9, e2 z z1 z6], fun f f1 f2 f3 f4 _ f6 f7 f8 f9 _ _ _ f13 => by rw [y3 f f9, fo f f1 f2 f3 f4 f6 f7 f8 f13, e3 f f9]⟩, r.same (fun z hz => by rw [y2 z (by omega) (by omega), zo z (by omega) (by omega) (by omega) (by omega) (by omega), e2 z (by omega) (by omega)]) (fun f hf => by rw [y3 f (by omega), fo f (by omega) (by omega) (by omega) (by omega) (by omega) (by omega) (by omega) (by omega), e3 f (by omega)]) (by rw [y3 52 (by decide), fo 52 (by decide) (by decide) (by decide) (by decide) (by decide) (by decide) (by decide) (by decide), e3 52 (by decide)]; exact r.1.2.1) y4 ?_ y5⟩
  · by_cases b0 : v2 = 0
    · rw [if_pos b0, if_pos b0, if_pos (by decide), show ((2 : Int)).toNat = 2 from rfl, hq2.2.1, fin]
    rw [if_neg b0, if_neg b0]
    by_cases b1 : v2 = 1
    · rw [if_pos b1, if_pos b1, if_pos (by decide), show ((11 : Int)).toNat = 11 from rfl, hq2.2.2.1, fin]
    rw [if_neg b1, if_neg b1, if_pos (by decide), show ((4 : Int)).toNat = 4 from rfl, hq2.2.2.2.2.2.1, fin, if_pos (by omega)]
  · rw [y3 53 (by decide), x4]
    unfold spWtn jI32
    have := spTks_wt (p := p) n.toNat X.1
    unfold spWtn at this
    omega
end LAT
