/-! ticks, on both sides -/
def spTks (p : spPl) : Nat → spSt → spSt
  | 0, s => s
  | n + 1, s => spTks p n (spTick p 0 s).1
def spWtn (s : spSt) : Nat := s.2.2.2.1.1.length
def spTkn (s : spSt) : Int := s.2.2.2.2.2.2.2.2.2.2
theorem spAck_rel {tick : Int} : ∀ (l : List spRec) (num : Int) (x : spA), (spAck tick l num x).2.2.2 + ((spAck tick l num x).2.1.length : Int) = x.2.2.2 + (x.2.1.length : Int) ∧ (spAck tick l num x).2.1.length ≤ x.2.1.length := by
  intro l
  induction l with
  | nil => intro num x; exact ⟨rfl, Nat.le_refl _⟩
  | cons r l ih =>
    intro num x
    have h := ih (num + 1) (pu x.1 r.1.toNat r.2.1, spRelW num x.2.1, spRelK tick num x.2.1 x.2.2.1, x.2.2.2 + ((x.2.1.length : Int) - ((spRelW num x.2.1).length : Int)))
    have hl := spRelW_len (num := num) x.2.1
    dsimp only at h
    refine ⟨?_, ?_⟩
    · show (spAck tick l (num + 1) _).2.2.2 + ((spAck tick l (num + 1) _).2.1.length : Int) = _
      rw [h.1]; omega
    · show (spAck tick l (num + 1) _).2.1.length ≤ _
      omega
theorem spTick_rel {s : spSt} {p : spPl} {rule : Nat} : (spTick p rule s).2 = (spWtn s : Int) - (spWtn (spTick p rule s).1 : Int) ∧ spWtn (spTick p rule s).1 ≤ spWtn s := by
  have h1 : spWtn (spTick p rule s).1 = spWtn (spFl1 s).1 := by
    unfold spWtn spTick spFl3 spFl2 spClo
    dsimp only
    split
    · split <;> rfl
    · rfl
  rw [h1]
  show (spFl1 s).2 = _ ∧ _
  obtain ⟨⟨D, C⟩, ⟨F, lf⟩, ⟨q, fl, first⟩, ⟨wt, kp⟩, ⟨tab, stab, snap, tops⟩, ⟨sg, at', ser, gr, hl, tk⟩⟩ := s
  unfold spFl1 spWtn
  dsimp only
  split
  · exact ⟨by dsimp only; omega, Nat.le_refl _⟩
  · split
    · have := spAck_rel (tick := tk) (q.take fl) first (tab, wt, kp, 0)
      dsimp only at this ⊢
      exact ⟨by omega, this.2⟩
    · exact ⟨by dsimp only; omega, Nat.le_refl _⟩
theorem spTks_tk {p : spPl} : ∀ (n : Nat) (s : spSt), spTkn (spTks p n s) = spTkn s + (n : Int) := by
  intro n
  induction n with
  | zero => intro s; show spTkn s = _; simp
  | succ n ih =>
    intro s
    show spTkn (spTks p n (spTick p 0 s).1) = _
    rw [ih]
    have := spTick_tk (s := s) (p := p) (rule := 0)
    unfold spTkn at *
    omega
theorem spTks_wt {p : spPl} : ∀ (n : Nat) (s : spSt), spWtn (spTks p n s) ≤ spWtn s := by
  intro n
  induction n with
  | zero => intro s; exact Nat.le_refl _
  | succ n ih => intro s; exact Nat.le_trans (ih _) (spTick_rel (s := s) (p := p) (rule := 0)).2
section TKS
variable {ns blk len : Nat} {b : Int} {p : spPl}
theorem spTks_ok (hp : spPp ns blk len p) : ∀ (n : Nat) (s : spSt), spOK ns blk len b s → spTkn s + (n : Int) ≤ 999 → spOK ns blk len b (spTks p n s) := by
  intro n
  induction n with
  | zero => intro s h _; exact h
  | succ n ih =>
    intro s h ht
    have e := spTick_tk (s := s) (p := p) (rule := 0)
    refine ih _ ⟨spInv_tick hp.1 hp.2.1 hp.2.2.1 h.1 (by unfold spTkn at ht; omega), spHal_tick h.2⟩ ?_
    unfold spTkn at *
    omega
theorem c_tksL {T : jT} {o0 pl n : Nat} (hp : spPp ns blk len p) (hpl : o0 + 4 < pl ∧ pl + 12 < o0 + 34) (hT : isX6 T pl) : ∀ (m i : Nat) (h : jH) (acc : Int) (s : spSt) (k : Nat), i + m = n → CS h (o0 + 35) ns blk len k s → spOK ns blk len b s → k + spWtn s ≤ 1000000 → CPl h pl p → h (o0 + 35) 0 = (pl : Int) → spTkn s + (m : Int) ≤ 999 → n ≤ 100 → 0 ≤ acc → acc + (spWtn s : Int) ≤ 8 →
    ∃ h' k', G_ticks_L22 T h o0 (n : Int) acc (i : Int) = some (acc + ((spWtn s : Int) - (spWtn (spTks p m s) : Int)), h') ∧ (∀ z, (z < o0 + 35 ∨ o0 + 55 < z) → z ≠ o0 + 78 → (z < pl + 1 ∨ pl + 8 < z) → h' z = h z) ∧ CPl h' pl p ∧ CS h' (o0 + 35) ns blk len k' (spTks p m s) ∧ h' (o0 + 35) 0 = (pl : Int) ∧ k' + spWtn (spTks p m s) = k + spWtn s := by
  unfold G_ticks_L22
  intro m
  induction m with
  | zero =>
    intro i h acc s k hi hs hI hk hP h0 ht hn ha ha2
    refine ⟨h, k, jloop_r ?_, fun _ _ _ _ => rfl, hP, hs, h0, rfl⟩
    show G_ticks_B22 T h o0 (n : Int) acc (i : Int) = _
    unfold G_ticks_B22
    rw [if_neg (by omega)]
    show some (Sum.inr (acc, h)) = some (Sum.inr (acc + ((spWtn s : Int) - (spWtn s : Int)), h))
    rw [Int.sub_self, Int.add_zero]
  | succ m ih =>
    intro i h acc s k hi hs hI hk hP h0 ht hn ha ha2
    have e := spTick_tk (s := s) (p := p) (rule := 0)
    have hr := spTick_rel (s := s) (p := p) (rule := 0)
    have ht2 : s.2.2.2.2.2.2.2.2.2.2 ≤ 998 := by unfold spTkn at ht; omega
    have hI2 : spOK ns blk len b (spTick p 0 s).1 := ⟨spInv_tick hp.1 hp.2.1 hp.2.2.1 hI.1 ht2, spHal_tick hI.2⟩
    obtain ⟨g, k1, e1, e2, e3, e4, e5, e6⟩ := c_tick (T := T) (o := o0 + 35) (pn := o0 + 78) (pl := pl) (rule := 0) hp.1 hp.2.1 hp.2.2.1 (by omega) (by omega) (by omega) hT h0 hP hp.2.2.2 hs hI.1 hk (by omega)
    obtain ⟨h', k', w1, w2, w3, w4, w5, w6⟩ := ih (i + 1) g (acc + (spTick p 0 s).2) (spTick p 0 s).1 k1 (by omega) e4 hI2 (by unfold spWtn at *; omega) e3 e5 (by unfold spTkn at *; omega) hn (by rw [hr.1]; omega) (by rw [hr.1]; omega)
    refine ⟨h', k', (jloop_l (s' := (acc + (spTick p 0 s).2, ((i + 1 : Nat) : Int), g)) ?_).trans ?_, fun z z1 z2 z3 => by rw [w2 z z1 z2 z3, e2 z (by omega) z2 z3], w3, w4, w5, ?_⟩
    · show G_ticks_B22 T h o0 (n : Int) acc (i : Int) = _
      unfold G_ticks_B22
      rw [if_pos (by omega), show St_passTick T h (o0 + 35) (o0 + 78) 0 = _ from e1]
      simp only [Option.bind_some]
      rw [pw (x := acc + (spTick p 0 s).2) (by rw [hr.1]; omega) (by rw [hr.1]; omega), pw (by omega) (by omega)]
      rfl
    · rw [show spTks p (m + 1) s = spTks p m (spTick p 0 s).1 from rfl]
      rw [hr.1] at w1 ⊢
      rw [w1]
      congr 2
      omega
    · rw [show spTks p (m + 1) s = spTks p m (spTick p 0 s).1 from rfl, w6]
      unfold spWtn
      exact e6
theorem m_tksL {o n th : Nat} {w0 : Int} (hp : spPp ns blk len p) (hth : th = 0 ∨ th = 1) (hw0 : 0 ≤ w0 ∧ w0 ≤ 8) : ∀ (m i : Nat) (h : jH) (s : spSt) (kpm : spKp), i + m = n → MS h o ns blk len kpm s → spOK ns blk len b s → h o 52 = -1 → h o 56 = (th : Int) → (th = 0 → kpm = s.2.2.2.1.2) → MPl h o p → h o 53 = w0 - (spWtn s : Int) → (spWtn s : Int) ≤ w0 → spTkn s + (m : Int) ≤ 999 → n ≤ 100 →
    ∃ h', M_ticksGo_L7 h o (n : Int) (i : Int) = some h' ∧ MTf o h h' ∧ MS h' o ns blk len (if th = 0 then (spTks p m s).2.2.2.1.2 else kpm) (spTks p m s) ∧ h' o 53 = w0 - (spWtn (spTks p m s) : Int) := by
  unfold M_ticksGo_L7
  intro m
  induction m with
  | zero =>
    intro i h s kpm hi hs hI h52 h56 hk hP h53 hw ht hn
    refine ⟨h, jloop_r ?_, ⟨fun _ _ _ _ _ _ => rfl, fun _ _ _ _ _ _ _ _ _ => rfl⟩, ?_, h53⟩
    · show M_ticksGo_B7 h o (n : Int) (i : Int) = _
      unfold M_ticksGo_B7
      rw [if_neg (by omega)]
      rfl
    · show MS h o ns blk len (if th = 0 then s.2.2.2.1.2 else kpm) s
      split
      · rename_i z; rw [← hk z]; exact hs
      · exact hs
  | succ m ih =>
    intro i h s kpm hi hs hI h52 h56 hk hP h53 hw ht hn
    have e := spTick_tk (s := s) (p := p) (rule := 0)
    have hr := spTick_rel (s := s) (p := p) (rule := 0)
    have ht2 : s.2.2.2.2.2.2.2.2.2.2 ≤ 998 := by unfold spTkn at ht; omega
    have hI2 : spOK ns blk len b (spTick p 0 s).1 := ⟨spInv_tick hp.1 hp.2.1 hp.2.2.1 hI.1 ht2, spHal_tick hI.2⟩
    obtain ⟨g, e1, e2, e3, e4, e5, e6⟩ := m_tick (o := o) (rule := 0) (th := th) hp.1 hp.2.1 hp.2.2.1 hP hp.2.2.2 hs hI.1 (by rw [h52, if_pos rfl]) ht2 hth hk h56 (by rw [h53]; unfold jI32; omega)
    obtain ⟨h', w1, w2, w3, w4⟩ := ih (i + 1) g (spTick p 0 s).1 _ (by omega) e3 hI2 (by rw [e2.2 52 (by decide) (by decide) (by decide) (by decide) (by decide) (by decide) (by decide) (by decide)]; exact h52) (by rw [e2.2 56 (by decide) (by decide) (by decide) (by decide) (by decide) (by decide) (by decide) (by decide)]; exact h56) (fun z => by rw [if_pos z]) (hP.eq (e2.1 _ (by omega) (by omega) (by omega) (by omega) (by omega)) (e2.1 _ (by omega) (by omega) (by omega) (by omega) (by omega)) (e2.1 _ (by omega) (by omega) (by omega) (by omega) (by omega))) (by rw [e4, h53, hr.1, pw (by omega) (by omega)]; omega) (by omega) (by unfold spTkn at *; omega) hn
    refine ⟨h', (jloop_l (s' := (((i + 1 : Nat) : Int), g)) ?_).trans w1, e2.tr w2, ?_, w4⟩
    · show M_ticksGo_B7 h o (n : Int) (i : Int) = _
      unfold M_ticksGo_B7
      rw [if_pos (by omega), e1]
      simp only [Option.bind_some]
      rw [pw (by omega) (by omega)]
      rfl
    · rw [show spTks p (m + 1) s = spTks p m (spTick p 0 s).1 from rfl]
      rcases hth with z | z
      · rw [if_pos z] at w3 ⊢; exact w3
      · rw [if_neg (by omega)] at w3 ⊢
        rw [if_neg (by omega)] at w3
        exact w3
def spDTicks (p : spPl) (n : Int) (X : spX) : Int × spX := if 1 ≤ n ∧ n ≤ 100 ∧ spTkn X.1 + n ≤ 999 then ((spWtn X.1 : Int) - (spWtn (spTks p n.toNat X.1) : Int), spTo (spTks p n.toNat X.1) (spRem X)) else (-1, spRfu 3 X)
theorem RC.ticks {T : jT} {h : jH} {o0 pl B : Nat} {X : spX} {n : Int} (hn32 : jI32 n) (hp : spPp ns blk len p) (hB : B ≤ 1000000) (hk : spXk ns blk len b X) (r : RC T h o0 pl ns blk len p B X) : ∃ h', G_ticks T h o0 n = some ((spDTicks p n X).1, h') ∧ RCf o0 pl h h' ∧ RC T h' o0 pl ns blk len p B (spDTicks p n X).2 := by
  have hd := hk.dim
  have hi := hk.1.1.que
  have r0 := r
  obtain ⟨⟨r1, r2, r3, r4, r5, r6, r7⟩, c, k, q1, q2, q3, q4, q5, q6, q7⟩ := r
  have hq := q5.que
  have hcp : G_canPass T h o0 n = some (if 1 ≤ n ∧ n ≤ 100 ∧ spTkn X.1 + n ≤ 999 then 1 else 0) := by
    unfold G_canPass G_canPass_p37
    rw [r0.told hd]
    simp only [Option.bind_some]
    rw [if_neg (by decide), hq.2.2.2.2.2.2.2]
    by_cases a1 : n < 1
    · rw [if_pos a1, if_neg (by omega)]
    rw [if_neg a1]
    by_cases a2 : 100 < n
    · rw [if_pos a2, if_neg (by omega)]
    rw [if_neg a2, pw (by omega) (by omega)]
    unfold spTkn
    by_cases a3 : 999 < X.1.2.2.2.2.2.2.2.2.2.2 + n
    · rw [if_pos a3, if_neg (by omega)]
    · rw [if_neg a3, if_pos (by omega)]
  unfold G_ticks spDTicks
  rw [hcp]
  simp only [Option.bind_some]
  by_cases a : 1 ≤ n ∧ n ≤ 100 ∧ spTkn X.1 + n ≤ 999
  rotate_left
  · rw [if_neg a, if_neg a, if_pos rfl]
    obtain ⟨g, e1, e2, e3⟩ := r0.refuse (k := 3) (by decide)
    rw [show G_refuse h o0 3 = _ from e1]
    exact ⟨g, rfl, e2, e3⟩
  rw [if_pos a, if_pos a, if_neg (by decide)]
  obtain ⟨g, e1, e2, e3, e4⟩ := r0.rem hk
  rw [e1]
  simp only [Option.bind_some]
  have gs : CS g (o0 + 35) ns blk len k X.1 := q5.eq (fun z z1 z2 => e4 z (by omega) (by omega))
  have hw8 := hk.1.1.wt8
  have q6' : k + spWtn X.1 ≤ B := q6
  obtain ⟨g2, k2, x1, x2, x3, x4, x5, x6⟩ := c_tksL (T := T) (n := n.toNat) hp r3 r2 n.toNat 0 g 0 X.1 k (by omega) gs hk.1 (by omega) e3.1.2.2.2.2.2.1 (by rw [e4 _ (by omega) (by omega)]; exact q7) (by omega) (by omega) (by omega) (by unfold spWtn; omega)
  rw [show (n.toNat : Int) = n by omega, Int.zero_add] at x1
  rw [show G_ticks_L22 T g o0 n 0 0 = _ from x1]
  refine ⟨g2, rfl, e2.tr ⟨fun z _ _ z3 z4 => x2 z (by omega) (by omega) z3, fun f _ _ => by rw [x2 o0 (by omega) (by omega) (by omega)]⟩, e3.set (Nat.le_refl _) (fun z z1 z2 => x2 z (by omega) (by omega) z2) x3 x4 (by unfold spWtn at *; omega) x5⟩
theorem RM.ticks {h : jH} {o : Nat} {X : spX} {n : Int} (hn32 : jI32 n) (hp : spPp ns blk len p) (hk : spXk ns blk len b X) (r : RM h o ns blk len p X) : ∃ h', M_ticks h o n = some ((spDTicks p n X).1, h') ∧ RMf o h h' ∧ RM h' o ns blk len p (spDTicks p n X).2 := by
  have hi := hk.1.1.que
  obtain ⟨m, q1, q2, q3, q4, q5, q6⟩ := r.2
  have hq := q6.que
  have hah : M_isAhead h o n 1 100 = some (if 1 ≤ n ∧ n ≤ 100 ∧ spTkn X.1 + n ≤ 999 then 1 else 0) := by
    unfold M_isAhead M_isAhead_p37
    rw [if_neg r.told, m_isIn]
    simp only [Option.bind_some]
    by_cases a1 : 1 ≤ n ∧ n ≤ 100
    rotate_left
    · rw [if_neg a1, if_pos rfl, if_neg (by omega)]
    rw [if_pos a1, if_neg (by decide), if_pos (by decide), show ((0 : Int)).toNat = 0 from rfl, hq.2.2.2.2.2.2.2.2.2, pw (by omega) (by omega)]
    unfold spTkn
    by_cases a3 : 999 < X.1.2.2.2.2.2.2.2.2.2.2 + n
    · rw [if_pos a3, if_neg (by omega)]
    · rw [if_neg a3, if_pos (by omega)]
  unfold M_ticks spDTicks
  rw [hah]
  simp only [Option.bind_some]
  by_cases a : 1 ≤ n ∧ n ≤ 100 ∧ spTkn X.1 + n ≤ 999
  rotate_left
  · rw [if_neg a, if_neg a, if_pos rfl, show M_refuses h o 3 = _ from m_refuses (k := 3) (by decide)]
    exact ⟨_, rfl, r.refuse (by decide)⟩
  rw [if_pos a, if_pos a, if_neg (by decide)]
  obtain ⟨g, e1, e2, e3, e4⟩ := r.rem hk
  rw [e1]
  simp only [Option.bind_some]
  have gs : MS g o ns blk len X.1.2.2.2.1.2 X.1 := e3.2.elim (fun m hm => hm.2.2.2.2.2)
  have hw8 := hk.1.1.wt8
  unfold M_ticksGo
  obtain ⟨g1, hg1⟩ : ∃ g1 : jH, g1 = jup g o 53 0 := ⟨_, rfl⟩
  rw [← hg1]
  have g1o : ∀ z, z ≠ o → g1 z = g z := fun z hz => by rw [hg1, jup_ne hz]
  have g1f : ∀ f, f ≠ 53 → g1 o f = g o f := fun f hf => by rw [hg1, ju_ne hf]
  obtain ⟨g2, x1, x2, x3, x4⟩ := m_tksL (o := o) (n := n.toNat) (th := 0) (w0 := (spWtn X.1 : Int)) hp (Or.inl rfl) (by unfold spWtn; omega) n.toNat 0 g1 X.1 _ (by omega) (gs.eq (g1o _ (by omega)) (g1o _ (by omega))) hk.1 (by rw [g1f _ (by decide)]; exact e3.1.2.1) (by rw [g1f _ (by decide)]; exact e3.1.2.2.1) (fun _ => rfl) (e3.1.2.2.2.2.1.eq (g1o _ (by omega)) (g1o _ (by omega)) (g1o _ (by omega))) (by rw [hg1, ju_eq]; omega) (Int.le_refl _) (by omega) (by omega)
  rw [show (n.toNat : Int) = n by omega] at x1
  rw [show M_ticksGo_L7 g1 o n 0 = _ from x1]
  simp only [Option.bind_some]
  rw [x4]
  rw [if_pos rfl] at x3
  have fo : ∀ f, f ≠ 44 → f ≠ 46 → f ≠ 47 → f ≠ 50 → f ≠ 53 → f ≠ 54 → f ≠ 55 → f ≠ 105 → g2 o f = g o f := fun f f1 f2 f3 f4 f5 f6 f7 f8 => by rw [x2.2 f f1 f2 f3 f4 f5 f6 f7 f8, g1f f f5]
  have zo : ∀ z, z ≠ o → z ≠ o + 33 → z ≠ o + 34 → z ≠ o + 35 → z ≠ o + 67 → g2 z = g z := fun z z1 z2 z3 z4 z5 => by rw [x2.1 z z1 z2 z3 z4 z5, g1o z z1]
  refine ⟨g2, rfl, e2.tr ⟨fun z z1 _ z3 z4 z5 _ _ _ z9 => zo z z1 z3 z4 z5 z9, fun f f1 f2 f3 f4 _ f6 f7 f8 _ _ _ _ f13 => fo f f1 f2 f3 f4 f6 f7 f8 f13⟩, e3.set (fun z hz => zo z (by omega) (by omega) (by omega) (by omega) (by omega)) (fun f hf => fo f (by omega) (by omega) (by omega) (by omega) (by omega) (by omega) (by omega) (by omega)) ?_ x3⟩
  rw [x4]
  unfold spWtn jI32
  have := spTks_wt (p := p) n.toNat X.1
  unfold spWtn at this
  omega
end TKS
