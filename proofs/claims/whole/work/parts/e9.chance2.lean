/-! the seed, ticks by the seed: the reference -/
section CHM
variable {ns blk len : Nat} {b : Int} {p : spPl}
theorem m_chncL {o n : Nat} {nz : Int} (hp : spPp ns blk len p) (hd : spDim ns blk len) : ∀ (m i : Nat) (h : jH) (c sd : Int) (s : spSt), i + m = n → h (o + 28) 9 = nz → h o 75 = sd → 0 ≤ sd → sd < 2147483648 → MS h o ns blk len s.2.2.2.1.2 s → spOK ns blk len b s → h o 52 = -1 → h o 56 = 0 → MPl h o p → jI32 (h o 53) → spTkn s + (m : Int) ≤ 999 → n ≤ 100 → 0 ≤ c → c ≤ (i : Int) →
    ∃ h', M_chance_L25 h o (n : Int) c (i : Int) = some ((spChs p nz m s sd c).2.2, h') ∧ (∀ z, z ≠ o → z ≠ o + 33 → z ≠ o + 34 → z ≠ o + 35 → z ≠ o + 67 → h' z = h z) ∧ (∀ f, f ≠ 44 → f ≠ 46 → f ≠ 47 → f ≠ 50 → f ≠ 53 → f ≠ 54 → f ≠ 55 → f ≠ 75 → f ≠ 105 → h' o f = h o f) ∧ MS h' o ns blk len (spChs p nz m s sd c).1.2.2.2.1.2 (spChs p nz m s sd c).1 ∧ jI32 (h' o 53) ∧ h' o 75 = (spChs p nz m s sd c).2.1 := by
  have hl := hd.len
  have h2 := hd.1
  have hn4 := hd.2.1
  unfold M_chance_L25
  intro m
  induction m with
  | zero =>
    intro i h c sd s hi h9 h75 hs0 hs1 hs hI h52 h56 hP h53 ht hn hc0 hc1
    refine ⟨h, jloop_r ?_, fun _ _ _ _ _ _ => rfl, fun _ _ _ _ _ _ _ _ _ _ => rfl, hs, h53, h75⟩
    show M_chance_B25 h o (n : Int) c (i : Int) = _
    unfold M_chance_B25
    rw [if_neg (by omega)]
    rfl
  | succ m ih =>
    intro i h c sd s hi h9 h75 hs0 hs1 hs hI h52 h56 hP h53 ht hn hc0 hc1
    have d1 := m_draw (h := h) (m := 100) h75 hs0 hs1 (by decide) (by decide)
    obtain ⟨h1, hh1⟩ : ∃ h1 : jH, h1 = jup h o 75 (spNx sd) := ⟨_, rfl⟩
    rw [← hh1] at d1
    have o1 : ∀ z, z ≠ o → h1 z = h z := fun z hz => by rw [hh1, jup_ne hz]
    have f1 : ∀ f, f ≠ 75 → h1 o f = h o f := fun f hf => by rw [hh1, ju_ne hf]
    have b0 : M_chance_B25 h o (n : Int) c (i : Int) = (if spDr 100 sd < nz then Option.bind (M_segmentMany h1 o) (fun b9 => Option.bind (M_drawOf h1 o b9) (fun b10 => Option.bind (M_length b10.2 o) (fun b11 => Option.bind (M_drawOf b10.2 o b11) (fun b12 => Option.bind (M_turns b12.2 o (wr ((wr (128 * b10.1)) + b12.1))) (fun b13 => M_chance_p78 b13 o (n : Int) (wr (c + 1)) (i : Int)))))) else M_chance_p78 h1 o (n : Int) c (i : Int)) := by
      unfold M_chance_B25
      rw [if_pos (by omega), d1]
      simp only [Option.bind_some]
      rw [if_pos (by decide), show ((9 : Int)).toNat = 9 from rfl, o1 (o + 28) (by omega), h9]
    have tick : ∀ (g : jH) (c' sd' : Int) (s' : spSt), (∀ z, z ≠ o → z ≠ o + 33 → z ≠ o + 34 → z ≠ o + 35 → z ≠ o + 67 → g z = h z) → (∀ f, f ≠ 75 → g o f = h o f) → g o 75 = sd' → 0 ≤ sd' → sd' < 2147483648 → MS g o ns blk len s'.2.2.2.1.2 s' → spOK ns blk len b s' → spTkn s' = spTkn s → 0 ≤ c' → c' ≤ (i : Int) + 1 → M_chance_B25 h o (n : Int) c (i : Int) = M_chance_p78 g o (n : Int) c' (i : Int) → ∃ h', jloop (fun s : (Int × Int × jH) => M_chance_B25 s.2.2 o (n : Int) s.1 s.2.1) (c, (i : Int), h) = some ((spChs p nz m (spTick p 0 s').1 sd' c').2.2, h') ∧ (∀ z, z ≠ o → z ≠ o + 33 → z ≠ o + 34 → z ≠ o + 35 → z ≠ o + 67 → h' z = h z) ∧ (∀ f, f ≠ 44 → f ≠ 46 → f ≠ 47 → f ≠ 50 → f ≠ 53 → f ≠ 54 → f ≠ 55 → f ≠ 75 → f ≠ 105 → h' o f = h o f) ∧ MS h' o ns blk len (spChs p nz m (spTick p 0 s').1 sd' c').1.2.2.2.1.2 (spChs p nz m (spTick p 0 s').1 sd' c').1 ∧ jI32 (h' o 53) ∧ h' o 75 = (spChs p nz m (spTick p 0 s').1 sd' c').2.1 := by
      intro g c' sd' s' go gf g75 hs0' hs1' gs gI gt hc0' hc1' hb
      have e := spTick_tk (s := s') (p := p) (rule := 0)
      have ht2 : s'.2.2.2.2.2.2.2.2.2.2 ≤ 998 := by unfold spTkn at ht gt; omega
      have hI2 : spOK ns blk len b (spTick p 0 s').1 := ⟨spInv_tick hp.1 hp.2.1 hp.2.2.1 gI.1 ht2, spHal_tick gI.2⟩
      have gP : MPl g o p := hP.eq (go _ (by omega) (by omega) (by omega) (by omega) (by omega)) (go _ (by omega) (by omega) (by omega) (by omega) (by omega)) (go _ (by omega) (by omega) (by omega) (by omega) (by omega))
      obtain ⟨g1, e1, e2, e3, e4, e5, e6⟩ := m_tick (o := o) (rule := 0) (th := 0) hp.1 hp.2.1 hp.2.2.1 gP hp.2.2.2 gs gI.1 (by rw [gf 52 (by decide), h52, if_pos rfl]) ht2 (Or.inl rfl) (fun _ => rfl) (by rw [gf 56 (by decide)]; exact h56) (by rw [gf 53 (by decide)]; exact h53)
      rw [if_pos rfl] at e3
      have et : spTkn (spTick p 0 s').1 = spTkn s + 1 := by unfold spTkn at gt ⊢; omega
      have k2 : ∀ f, f ≠ 44 → f ≠ 46 → f ≠ 47 → f ≠ 50 → f ≠ 53 → f ≠ 54 → f ≠ 55 → f ≠ 105 → g1 o f = g o f := e2.2
      have k1 : ∀ z, z ≠ o → z ≠ o + 33 → z ≠ o + 34 → z ≠ o + 35 → z ≠ o + 67 → g1 z = h z := fun z z1 z2 z3 z4 z5 => by rw [e2.1 z z1 z2 z3 z4 z5, go z z1 z2 z3 z4 z5]
      obtain ⟨h', w1, w2, w3, w4, w5, w6⟩ := ih (i + 1) g1 c' sd' (spTick p 0 s').1 (by omega) (by rw [k1 _ (by omega) (by omega) (by omega) (by omega) (by omega)]; exact h9) (by rw [k2 75 (by decide) (by decide) (by decide) (by decide) (by decide) (by decide) (by decide) (by decide)]; exact g75) hs0' hs1' e3 hI2 (by rw [k2 52 (by decide) (by decide) (by decide) (by decide) (by decide) (by decide) (by decide) (by decide), gf 52 (by decide)]; exact h52) (by rw [k2 56 (by decide) (by decide) (by decide) (by decide) (by decide) (by decide) (by decide) (by decide), gf 56 (by decide)]; exact h56) (gP.eq (e2.1 _ (by omega) (by omega) (by omega) (by omega) (by omega)) (e2.1 _ (by omega) (by omega) (by omega) (by omega) (by omega)) (e2.1 _ (by omega) (by omega) (by omega) (by omega) (by omega))) (by rw [e4]; exact wr_in _) (by omega) hn hc0' (by omega)
      refine ⟨h', (jloop_l (s' := (c', ((i + 1 : Nat) : Int), g1)) ?_).trans w1, fun z z1 z2 z3 z4 z5 => by rw [w2 z z1 z2 z3 z4 z5, k1 z z1 z2 z3 z4 z5], fun f y1 y2 y3 y4 y5 y6 y7 y8 y9 => by rw [w3 f y1 y2 y3 y4 y5 y6 y7 y8 y9, k2 f y1 y2 y3 y4 y5 y6 y7 y9, gf f y8], w4, w5, w6⟩
      show M_chance_B25 h o (n : Int) c (i : Int) = _
      rw [hb]
      unfold M_chance_p78
      rw [e1]
      simp only [Option.bind_some]
      rw [pw (x := (i : Int) + 1) (by omega) (by omega)]
      rfl
    unfold spChs
    by_cases a : spDr 100 sd < nz
    rotate_left
    · rw [if_neg a] at b0 ⊢
      exact tick h1 c (spNx sd) s (fun z z0 _ _ _ _ => o1 z z0) f1 (by rw [hh1, ju_eq]) (spNx_in _).1 (spNx_in _).2 (hs.eq (o1 _ (by omega)) (o1 _ (by omega))) hI rfl hc0 (by omega) b0
    rw [if_pos a] at b0 ⊢
    have hs1D : MD h1 o ns blk len s.1.1 s.1.2 := (hs.eq (h' := h1) (o1 _ (by omega)) (o1 _ (by omega))).que.2.2.2.2.2.2.2.2.1
    have d2 := m_draw (h := h1) (o := o) (m := (ns : Int)) (sd := spNx sd) (by rw [hh1, ju_eq]) (spNx_in _).1 (spNx_in _).2 (by omega) (by omega)
    obtain ⟨h2', hh2⟩ : ∃ h2' : jH, h2' = jup h1 o 75 (spNx (spNx sd)) := ⟨_, rfl⟩
    rw [← hh2] at d2
    have o2 : ∀ z, z ≠ o → h2' z = h z := fun z hz => by rw [hh2, jup_ne hz, o1 z hz]
    have f2 : ∀ f, f ≠ 75 → h2' o f = h o f := fun f hf => by rw [hh2, ju_ne hf, f1 f hf]
    have hlen2 : M_length h2' o = some (len : Int) := m_len (hs1D.fr hd (by rw [hh2, jup_ne (by omega)]) (fun i _ _ => by rw [hh2, jup_ne (by omega)])) hd
    have d3 := m_draw (h := h2') (o := o) (m := (len : Int)) (sd := spNx (spNx sd)) (by rw [hh2, ju_eq]) (spNx_in _).1 (spNx_in _).2 (by omega) (by omega)
    obtain ⟨h3', hh3⟩ : ∃ h3' : jH, h3' = jup h2' o 75 (spNx (spNx (spNx sd))) := ⟨_, rfl⟩
    rw [← hh3] at d3
    have o3 : ∀ z, z ≠ o → h3' z = h z := fun z hz => by rw [hh3, jup_ne hz, o2 z hz]
    have f3 : ∀ f, f ≠ 75 → h3' o f = h o f := fun f hf => by rw [hh3, ju_ne hf, f2 f hf]
    rw [m_seg hs1D] at b0
    simp only [Option.bind_some] at b0
    rw [d2] at b0
    simp only [Option.bind_some] at b0
    rw [hlen2] at b0
    simp only [Option.bind_some] at b0
    rw [d3] at b0
    simp only [Option.bind_some] at b0
    have a1 := spDr_in (m := (ns : Int)) (sd := spNx sd) (by omega)
    have a2 := spDr_in (m := (len : Int)) (sd := spNx (spNx sd)) (by omega)
    rw [hp.1, hp.2.2.1]
    generalize spDr (ns : Int) (spNx sd) = x1 at a1 b0 ⊢
    generalize spDr (len : Int) (spNx (spNx sd)) = x2 at a2 b0 ⊢
    rw [pw (x := 128 * x1) (by omega) (by omega), pw (x := 128 * x1 + x2) (by omega) (by omega), show 128 * x1 + x2 = ((128 * x1.toNat + x2.toNat : Nat) : Int) by omega, pw (x := c + 1) (by omega) (by omega)] at b0
    obtain ⟨g, t1, t2, t3⟩ := m_flp (s' := x1.toNat) (k := x2.toNat) (by omega) (by omega) (hs.eq (h' := h3') (o3 _ (by omega)) (o3 _ (by omega))) hI.1
    rw [t1] at b0
    simp only [Option.bind_some] at b0
    have e0 : spTkn (spFlp x1.toNat x2.toNat s) = spTkn s := by obtain ⟨⟨D, C⟩, r⟩ := s; rfl
    have e1 : (spFlp x1.toNat x2.toNat s).2.2.2.1.2 = s.2.2.2.1.2 := by obtain ⟨⟨D, C⟩, r⟩ := s; rfl
    exact tick g (c + 1) (spNx (spNx (spNx sd))) (spFlp x1.toNat x2.toNat s) (fun z z0 z1 _ _ _ => by rw [t2 z z1, o3 z z0]) (fun f hf => by rw [t2 o (by omega), f3 f hf]) (by rw [t2 o (by omega), hh3, ju_eq]) (spNx_in _).1 (spNx_in _).2 (by rw [e1]; exact t3) ⟨spInv_flp (by omega) (by omega) hI.1, spHal_flp hI.2⟩ e0 (by omega) (by omega) b0
theorem RM.chance {h : jH} {o : Nat} {X : spX} {n nz sd : Int} (hn32 : jI32 n) (hp : spPp ns blk len p) (hk : spXk ns blk len b X) (r : RM h o ns blk len p X) (hsd : h o 75 = sd) (hs0 : 0 ≤ sd) (hs1 : sd < 2147483648) (hnz : h (o + 28) 9 = nz) : ∃ h', M_chance h o n = some ((spDChance p nz n sd X).1, h') ∧ RMh o h h' ∧ RM h' o ns blk len p (spDChance p nz n sd X).2.1 ∧ h' o 75 = (spDChance p nz n sd X).2.2 := by
  have hd := hk.dim
  have hi := hk.1.1.que
  obtain ⟨m, q1, q2, q3, q4, q5, q6⟩ := r.2
  have hq := q6.que
  have hah : M_isAhead h o n 1 100 = some (if 1 ≤ n ∧ n ≤ 100 ∧ spTkn X.1 + n ≤ 999 then 1 else 0) := by
    unfold M_isAhead M_isAhead_p37
    rw [if_neg r.told, m_isIn]
    simp only [Option.bind_some]
    by_cases a1 : 1 ≤ n ∧ n ≤ 100
    rotate_left
    · rw [if_neg a1, if_pos rfl, if_neg (by omega)]
    rw [if_pos a1, if_neg (by decide), if_pos (by decide), show ((0 : Int)).toNat = 0 from rfl, hq.2.2.2.2.2.2.2.2.2, pw (by omega) (by omega)]
    unfold spTkn
    by_cases a3 : 999 < X.1.2.2.2.2.2.2.2.2.2.2 + n
    · rw [if_pos a3, if_neg (by omega)]
    · rw [if_neg a3, if_pos (by omega)]
  unfold M_chance spDChance
  rw [hah]
  simp only [Option.bind_some]
  by_cases a : 1 ≤ n ∧ n ≤ 100 ∧ spTkn X.1 + n ≤ 999
  rotate_left
  · rw [if_neg a, if_neg a, if_pos rfl, show M_refuses h o 3 = _ from m_refuses (k := 3) (by decide)]
    have hr := r.refuse (k := 3) (by decide)
    exact ⟨_, rfl, hr.1.h, hr.2, (show jup h (o + 2) 3 (wr (h (o + 2) 3 + 1)) o 75 = sd by rw [jup_ne (by omega)]; exact hsd)⟩
  rw [if_pos a, if_pos a, if_neg (by decide)]
  obtain ⟨g, e1, e2, e3, e4⟩ := r.rem hk
  rw [e1]
  simp only [Option.bind_some]
  have gs : MS g o ns blk len X.1.2.2.2.1.2 X.1 := e3.2.elim (fun m hm => hm.2.2.2.2.2)
  obtain ⟨g2, x1, x2, x3, x4, x5, x6⟩ := m_chncL (o := o) (n := n.toNat) (nz := nz) hp hd n.toNat 0 g 0 sd X.1 (by omega) (by rw [e2.1 _ (by omega) (by omega) (by omega) (by omega) (by omega) (by omega) (by omega) (by omega) (by omega)]; exact hnz) (by rw [e2.2 75 (by decide) (by decide) (by decide) (by decide) (by decide) (by decide) (by decide) (by decide) (by decide) (by decide) (by decide) (by decide) (by decide)]; exact hsd) hs0 hs1 gs hk.1 e3.1.2.1 e3.1.2.2.1 e3.1.2.2.2.2.1 e3.1.2.2.2.1 (by omega) (by omega) (by omega) (by omega)
  rw [show (n.toNat : Int) = n by omega] at x1
  rw [show M_chance_L25 g o n 0 0 = _ from x1]
  refine ⟨g2, rfl, e2.h.tr ⟨fun z z1 _ z3 z4 z5 _ _ _ z9 => x2 z z1 z3 z4 z5 z9, fun f f1 f2 f3 f4 _ f6 f7 f8 _ _ _ _ f13 f14 => x3 f f1 f2 f3 f4 f6 f7 f8 f13 f14⟩, e3.set (fun z hz => x2 z (by omega) (by omega) (by omega) (by omega) (by omega)) (fun f hf => x3 f (by omega) (by omega) (by omega) (by omega) (by omega) (by omega) (by omega) (by omega) (by omega)) x5 x4, x6⟩
theorem RM.seed {h : jH} {o : Nat} {X : spX} {x sd : Int} (r : RM h o ns blk len p X) (hsd : h o 75 = sd) : ∃ h', M_seed h o x = some ((spDSeed x sd X).1, h') ∧ RMh o h h' ∧ RM h' o ns blk len p (spDSeed x sd X).2.1 ∧ h' o 75 = (spDSeed x sd X).2.2 := by
  unfold M_seed spDSeed M_isRefused
  by_cases a : x < 0
  · rw [if_pos a, if_pos a]
    have hr := r.refuse (k := 6) (by decide)
    rw [if_pos (by decide), if_pos (by decide), show ((6 : Int)).toNat = 6 from rfl]
    simp only [Option.bind_some]
    rw [if_pos (Or.inl True.intro)]
    exact ⟨_, rfl, hr.1.h, hr.2, (show jup h (o + 2) 6 (wr (h (o + 2) 6 + 1)) o 75 = sd by rw [jup_ne (by omega)]; exact hsd)⟩
  · rw [if_neg a, if_neg a]
    exact ⟨_, rfl, ⟨fun z z1 _ _ _ _ _ _ _ _ => jup_ne z1, fun f _ _ _ _ _ _ _ _ _ _ _ _ f13 _ => ju_ne f13⟩, r.off (fun z hz => jup_ne (by omega)) (fun f hf => ju_ne (by omega)), ju_eq⟩
end CHM
