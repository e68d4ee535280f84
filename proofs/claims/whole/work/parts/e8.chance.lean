/-! the seed, ticks by the seed: on both sides -/
def spNx (sd : Int) : Int := (1103515245 * sd + 12345) % 2147483648
def spDr (m sd : Int) : Int := spNx sd / 64 % m
theorem spNx_in (sd : Int) : 0 ≤ spNx sd ∧ spNx sd < 2147483648 := by unfold spNx; omega
theorem spDr_in {m sd : Int} (hm : 0 < m) : 0 ≤ spDr m sd ∧ spDr m sd < m := ⟨Int.emod_nonneg _ (by omega), Int.emod_lt_of_pos _ hm⟩
/-- ticks by the seed: the state, the seed, how many were turned -/
def spChs (p : spPl) (nz : Int) : Nat → spSt → Int → Int → spSt × Int × Int
  | 0, s, sd, c => (s, sd, c)
  | n + 1, s, sd, c => if spDr 100 sd < nz then spChs p nz n (spTick p 0 (spFlp (spDr (p.1 : Int) (spNx sd)).toNat (spDr (p.2.2.1 : Int) (spNx (spNx sd))).toNat s)).1 (spNx (spNx (spNx sd))) (c + 1) else spChs p nz n (spTick p 0 s).1 (spNx sd) c
def spDChance (p : spPl) (nz n sd : Int) (X : spX) : Int × spX × Int := if 1 ≤ n ∧ n ≤ 100 ∧ spTkn X.1 + n ≤ 999 then ((spChs p nz n.toNat X.1 sd 0).2.2, spTo (spChs p nz n.toNat X.1 sd 0).1 (spRem X), (spChs p nz n.toNat X.1 sd 0).2.1) else (-1, spRfu 3 X, sd)
def spDSeed (x sd : Int) (X : spX) : Int × spX × Int := if x < 0 then (0, spRfu 6 X, sd) else (1, X, x)
/-- what ticks by the seed may change -/
def RCh (o0 pl : Nat) (h h' : jH) : Prop := (∀ z, z ≠ o0 → z ≠ o0 + 3 → (z < pl + 1 ∨ pl + 8 < z) → (z < o0 + 35 ∨ o0 + 505 ≤ z) → h' z = h z) ∧ ∀ f, f ≠ 5 → f ≠ 13 → f ≠ 14 → h' o0 f = h o0 f
theorem RCf.h {o0 pl : Nat} {h h' : jH} (a : RCf o0 pl h h') : RCh o0 pl h h' := ⟨a.1, fun f _ f2 f3 => a.2 f f2 f3⟩
theorem RCh.tr {o0 pl : Nat} {h h1 h2 : jH} (a : RCh o0 pl h h1) (b : RCh o0 pl h1 h2) : RCh o0 pl h h2 := ⟨fun z x1 x2 x3 x4 => (b.1 z x1 x2 x3 x4).trans (a.1 z x1 x2 x3 x4), fun f x0 x1 x2 => (b.2 f x0 x1 x2).trans (a.2 f x0 x1 x2)⟩
def RMh (o : Nat) (h h' : jH) : Prop := (∀ z, z ≠ o → z ≠ o + 2 → z ≠ o + 33 → z ≠ o + 34 → z ≠ o + 35 → z ≠ o + 36 → z ≠ o + 37 → z ≠ o + 42 → z ≠ o + 67 → h' z = h z) ∧ ∀ f, f ≠ 44 → f ≠ 46 → f ≠ 47 → f ≠ 50 → f ≠ 52 → f ≠ 53 → f ≠ 54 → f ≠ 55 → f ≠ 56 → (f < 59 ∨ 65 < f) → f ≠ 73 → f ≠ 74 → f ≠ 75 → f ≠ 105 → h' o f = h o f
theorem RMf.h {o : Nat} {h h' : jH} (a : RMf o h h') : RMh o h h' := ⟨a.1, fun f x1 x2 x3 x4 x5 x6 x7 x8 x9 x10 x11 x12 _ x13 => a.2 f x1 x2 x3 x4 x5 x6 x7 x8 x9 x10 x11 x12 x13⟩
theorem RMh.tr {o : Nat} {h h1 h2 : jH} (a : RMh o h h1) (b : RMh o h1 h2) : RMh o h h2 := ⟨fun z x1 x2 x3 x4 x5 x6 x7 x8 x9 => (b.1 z x1 x2 x3 x4 x5 x6 x7 x8 x9).trans (a.1 z x1 x2 x3 x4 x5 x6 x7 x8 x9), fun f x1 x2 x3 x4 x5 x6 x7 x8 x9 x10 x11 x12 x13 x14 => (b.2 f x1 x2 x3 x4 x5 x6 x7 x8 x9 x10 x11 x12 x13 x14).trans (a.2 f x1 x2 x3 x4 x5 x6 x7 x8 x9 x10 x11 x12 x13 x14)⟩
section CHN
variable {ns blk len : Nat} {b : Int} {p : spPl}
theorem RC.off {T : jT} {h h' : jH} {o0 pl B : Nat} {X : spX} (r : RC T h o0 pl ns blk len p B X) (e : ∀ z, (z = o0 + 3 ∨ (o0 + 4 < z ∧ z < o0 + 56) ∨ (o0 + 84 < z ∧ z < o0 + 505)) → h' z = h z) (ef : ∀ f, f = 8 ∨ f = 13 ∨ f = 14 → h' o0 f = h o0 f) : RC T h' o0 pl ns blk len p B X := by
  obtain ⟨⟨r1, r2, r3, r4, r5, r6, r7⟩, c, n, q1, q2, q3, q4, q5, q6, q7⟩ := r
  exact ⟨⟨r1, r2, r3, by rw [ef 8 (by decide)]; exact r4, by rw [e _ (by omega)]; exact r5, CPl.eq r6 (fun z z1 z2 => e z (by omega)), fun i hi => by rw [e _ (by omega)]; exact r7 i hi⟩, c, n, by rw [ef 14 (by decide)]; exact q1, q2, by rw [ef 13 (by decide)]; exact q3, q4.eq (fun z z1 z2 => e z (by omega)), q5.eq (fun z z1 z2 => e z (by omega)), q6, by rw [e _ (by omega)]; exact q7⟩
theorem RM.off {h h' : jH} {o : Nat} {X : spX} (r : RM h o ns blk len p X) (e : ∀ z, z = o + 2 ∨ z = o + 28 ∨ z = o + 30 ∨ z = o + 31 ∨ z = o + 32 ∨ z = o + 33 ∨ z = o + 42 → h' z = h z) (ef : ∀ f, f = 43 ∨ f = 52 ∨ f = 53 ∨ f = 56 ∨ f = 73 ∨ f = 74 → h' o f = h o f) : RM h' o ns blk len p X := by
  have hm : MS h o ns blk len X.1.2.2.2.1.2 X.1 := r.2.elim (fun m hm => hm.2.2.2.2.2)
  exact r.same (fun z hz => e z (by omega)) (fun f hf => ef f (by omega)) (by rw [ef 52 (by decide)]; exact r.1.2.1) (by rw [ef 56 (by decide)]; exact r.1.2.2.1) (by rw [ef 53 (by decide)]; exact r.1.2.2.2.1) (hm.eq (e _ (by omega)) (e _ (by omega)))
theorem c_draw {h : jH} {o0 : Nat} {m sd : Int} (hs : h o0 5 = sd) (h0 : 0 ≤ sd) (h1 : sd < 2147483648) (hm : 0 < m) (hm2 : m ≤ 1000) : G_draw h o0 m = some (spDr m sd, jup h o0 5 (spNx sd)) := by
  have hx := spNx_in sd
  have hr := spDr_in (m := m) (sd := sd) hm
  unfold G_draw
  rw [hs, pv (x := 1103515245 * sd) (by omega) (by omega), pv (x := 1103515245 * sd + 12345) (by omega) (by omega), pj_m31 _ (by omega) (by omega)]
  show (if 0 < m then (if m ≠ 0 then some (wr (Int.tmod (wl (Int.tdiv ((jup h o0 5 (spNx sd)) o0 5) 64)) m), jup h o0 5 (spNx sd)) else none) else some (0, jup h o0 5 (spNx sd))) = _
  rw [if_pos hm, if_pos (by omega), ju_eq, Int.tdiv_eq_ediv_of_nonneg hx.1, pv (x := spNx sd / 64) (by omega) (by omega), Int.tmod_eq_emod_of_nonneg (by omega)]
  show some (wr (spDr m sd), _) = _
  rw [pw (x := spDr m sd) (by omega) (by omega)]
theorem m_draw {h : jH} {o : Nat} {m sd : Int} (hs : h o 75 = sd) (h0 : 0 ≤ sd) (h1 : sd < 2147483648) (hm : 0 < m) (hm2 : m ≤ 1000) : M_drawOf h o m = some (spDr m sd, jup h o 75 (spNx sd)) := by
  have hx := spNx_in sd
  have hr := spDr_in (m := m) (sd := sd) hm
  unfold M_drawOf
  rw [hs, pv (x := 1103515245 * sd) (by omega) (by omega), pv (x := 1103515245 * sd + 12345) (by omega) (by omega), Int.tmod_eq_emod_of_nonneg (a := 1103515245 * sd + 12345) (by omega)]
  show (if m ≠ 0 then some (wr (Int.tmod (wl (Int.tdiv ((jup h o 75 (spNx sd)) o 75) 64)) m), jup h o 75 (spNx sd)) else none) = _
  rw [if_pos (by omega), ju_eq, Int.tdiv_eq_ediv_of_nonneg hx.1, pv (x := spNx sd / 64) (by omega) (by omega), Int.tmod_eq_emod_of_nonneg (by omega)]
  show some (wr (spDr m sd), _) = _
  rw [pw (x := spDr m sd) (by omega) (by omega)]
theorem spChs_ok {nz : Int} (hp : spPp ns blk len p) (hd : spDim ns blk len) : ∀ (n : Nat) (s : spSt) (sd c : Int), spOK ns blk len b s → spTkn s + (n : Int) ≤ 999 → 0 ≤ sd → sd < 2147483648 → spOK ns blk len b (spChs p nz n s sd c).1 ∧ 0 ≤ (spChs p nz n s sd c).2.1 ∧ (spChs p nz n s sd c).2.1 < 2147483648 ∧ spWtn (spChs p nz n s sd c).1 ≤ spWtn s := by
  have hl := hd.len
  have h2 := hd.1
  intro n
  induction n with
  | zero => intro s sd c h _ h0 h1; exact ⟨h, h0, h1, Nat.le_refl _⟩
  | succ n ih =>
    intro s sd c h ht h0 h1
    unfold spChs
    split
    · have a1 := spDr_in (m := (p.1 : Int)) (sd := spNx sd) (by rw [hp.1]; omega)
      have a2 := spDr_in (m := (p.2.2.1 : Int)) (sd := spNx (spNx sd)) (by rw [hp.2.2.1]; omega)
      have f1 : spOK ns blk len b (spFlp (spDr (p.1 : Int) (spNx sd)).toNat (spDr (p.2.2.1 : Int) (spNx (spNx sd))).toNat s) := ⟨spInv_flp (by rw [hp.1] at a1 ⊢; omega) (by rw [hp.2.2.1] at a2 ⊢; omega) h.1, spHal_flp h.2⟩
      have e := spTick_tk (s := spFlp (spDr (p.1 : Int) (spNx sd)).toNat (spDr (p.2.2.1 : Int) (spNx (spNx sd))).toNat s) (p := p) (rule := 0)
      have hr := (spTick_rel (s := spFlp (spDr (p.1 : Int) (spNx sd)).toNat (spDr (p.2.2.1 : Int) (spNx (spNx sd))).toNat s) (p := p) (rule := 0)).2
      have e0 : (spFlp (spDr (p.1 : Int) (spNx sd)).toNat (spDr (p.2.2.1 : Int) (spNx (spNx sd))).toNat s).2.2.2.2.2.2.2.2.2.2 = spTkn s := by obtain ⟨⟨D, C⟩, r⟩ := s; rfl
      have e1 : spWtn (spFlp (spDr (p.1 : Int) (spNx sd)).toNat (spDr (p.2.2.1 : Int) (spNx (spNx sd))).toNat s) = spWtn s := by obtain ⟨⟨D, C⟩, r⟩ := s; rfl
      have e2 : spTkn (spTick p 0 (spFlp (spDr (p.1 : Int) (spNx sd)).toNat (spDr (p.2.2.1 : Int) (spNx (spNx sd))).toNat s)).1 = spTkn s + 1 := by
        unfold spTkn at *
        omega
      obtain ⟨y1, y2, y3, y4⟩ := ih (spTick p 0 (spFlp (spDr (p.1 : Int) (spNx sd)).toNat (spDr (p.2.2.1 : Int) (spNx (spNx sd))).toNat s)).1 (spNx (spNx (spNx sd))) (c + 1) ⟨spInv_tick hp.1 hp.2.1 hp.2.2.1 f1.1 (by omega), spHal_tick f1.2⟩ (by omega) (spNx_in _).1 (spNx_in _).2
      exact ⟨y1, y2, y3, by omega⟩
    · have e := spTick_tk (s := s) (p := p) (rule := 0)
      have hr := (spTick_rel (s := s) (p := p) (rule := 0)).2
      have e2 : spTkn (spTick p 0 s).1 = spTkn s + 1 := e
      obtain ⟨y1, y2, y3, y4⟩ := ih (spTick p 0 s).1 (spNx sd) c ⟨spInv_tick hp.1 hp.2.1 hp.2.2.1 h.1 (by unfold spTkn at ht; omega), spHal_tick h.2⟩ (by omega) (spNx_in _).1 (spNx_in _).2
      exact ⟨y1, y2, y3, by omega⟩
theorem c_chncL {T : jT} {o0 pl n : Nat} {nz : Int} (hp : spPp ns blk len p) (hd : spDim ns blk len) (hpl : o0 + 4 < pl ∧ pl + 12 < o0 + 34) (hT : isX6 T pl) : ∀ (m i : Nat) (h : jH) (c sd : Int) (s : spSt) (k : Nat), i + m = n → h o0 8 = (pl : Int) → h pl 3 = nz → h o0 5 = sd → 0 ≤ sd → sd < 2147483648 → CS h (o0 + 35) ns blk len k s → spOK ns blk len b s → k + spWtn s ≤ 1000000 → CPl h pl p → h (o0 + 35) 0 = (pl : Int) → spTkn s + (m : Int) ≤ 999 → n ≤ 100 → 0 ≤ c → c ≤ (i : Int) →
    ∃ h' k', G_chance_L22 T h o0 (n : Int) c (i : Int) = some ((spChs p nz m s sd c).2.2, h') ∧ (∀ z, z ≠ o0 → (z < o0 + 35 ∨ o0 + 55 < z) → z ≠ o0 + 78 → (z < pl + 1 ∨ pl + 8 < z) → h' z = h z) ∧ (∀ f, f ≠ 5 → h' o0 f = h o0 f) ∧ CPl h' pl p ∧ CS h' (o0 + 35) ns blk len k' (spChs p nz m s sd c).1 ∧ h' (o0 + 35) 0 = (pl : Int) ∧ k' + spWtn (spChs p nz m s sd c).1 = k + spWtn s ∧ h' o0 5 = (spChs p nz m s sd c).2.1 := by
  have hl := hd.len
  have h2 := hd.1
  have hn4 := hd.2.1
  unfold G_chance_L22
  intro m
  induction m with
  | zero =>
    intro i h c sd s k hi h8 h3 h5 hs0 hs1 hs hI hk hP h0 ht hn hc0 hc1
    refine ⟨h, k, jloop_r ?_, fun _ _ _ _ _ => rfl, fun _ _ => rfl, hP, hs, h0, rfl, h5⟩
    show G_chance_B22 T h o0 (n : Int) c (i : Int) = _
    unfold G_chance_B22
    rw [if_neg (by omega)]
    rfl
  | succ m ih =>
    intro i h c sd s k hi h8 h3 h5 hs0 hs1 hs hI hk hP h0 ht hn hc0 hc1
    have hbody : ∀ X : Option ((Int × Int × jH) ⊕ (Int × jH)), G_chance_B22 T h o0 (n : Int) c (i : Int) = X → G_chance_B22 T h o0 (n : Int) c (i : Int) = X := fun _ e => e
    have d1 := c_draw (h := h) (m := 100) h5 hs0 hs1 (by decide) (by decide)
    obtain ⟨h1, hh1⟩ : ∃ h1 : jH, h1 = jup h o0 5 (spNx sd) := ⟨_, rfl⟩
    rw [← hh1] at d1
    have o1 : ∀ z, z ≠ o0 → h1 z = h z := fun z hz => by rw [hh1, jup_ne hz]
    have f1 : ∀ f, f ≠ 5 → h1 o0 f = h o0 f := fun f hf => by rw [hh1, ju_ne hf]
    have b0 : G_chance_B22 T h o0 (n : Int) c (i : Int) = (if spDr 100 sd < nz then Option.bind (G_draw h1 o0 (h1 (o0 + 36) 2)) (fun b9 => Option.bind (G_draw b9.2 o0 (b9.2 (o0 + 36) 3)) (fun b10 => Option.bind (Di_turn b10.2 (o0 + 36) (wr ((wr (b9.1 * (b9.2 (o0 + 36) 3))) + b10.1))) (fun b11 => G_chance_p100 T b11 o0 (n : Int) (wr (c + 1)) (i : Int)))) else G_chance_p100 T h1 o0 (n : Int) c (i : Int)) := by
      unfold G_chance_B22
      rw [if_pos (by omega), d1]
      simp only [Option.bind_some]
      rw [f1 8 (by decide), h8, jdyn_at hT]
      simp only [Option.bind_some]
      rw [o1 pl (by omega), h3]
    -- a tick from a heap
    have tick : ∀ (g : jH) (c' sd' : Int) (s' : spSt), (∀ z, z ≠ o0 → (z < o0 + 35 ∨ o0 + 55 < z) → z ≠ o0 + 78 → (z < pl + 1 ∨ pl + 8 < z) → g z = h z) → (∀ f, f ≠ 5 → g o0 f = h o0 f) → g o0 5 = sd' → 0 ≤ sd' → sd' < 2147483648 → CS g (o0 + 35) ns blk len k s' → spOK ns blk len b s' → spWtn s' = spWtn s → CPl g pl p → g (o0 + 35) 0 = (pl : Int) → spTkn s' = spTkn s → 0 ≤ c' → c' ≤ (i : Int) + 1 → G_chance_B22 T h o0 (n : Int) c (i : Int) = G_chance_p100 T g o0 (n : Int) c' (i : Int) → ∃ h' k', jloop (fun s : (Int × Int × jH) => G_chance_B22 T s.2.2 o0 (n : Int) s.1 s.2.1) (c, (i : Int), h) = some ((spChs p nz m (spTick p 0 s').1 sd' c').2.2, h') ∧ (∀ z, z ≠ o0 → (z < o0 + 35 ∨ o0 + 55 < z) → z ≠ o0 + 78 → (z < pl + 1 ∨ pl + 8 < z) → h' z = h z) ∧ (∀ f, f ≠ 5 → h' o0 f = h o0 f) ∧ CPl h' pl p ∧ CS h' (o0 + 35) ns blk len k' (spChs p nz m (spTick p 0 s').1 sd' c').1 ∧ h' (o0 + 35) 0 = (pl : Int) ∧ k' + spWtn (spChs p nz m (spTick p 0 s').1 sd' c').1 = k + spWtn s ∧ h' o0 5 = (spChs p nz m (spTick p 0 s').1 sd' c').2.1 := by
      intro g c' sd' s' go gf g5 hs0' hs1' gs gI gw gP g0 gt hc0' hc1' hb
      have e := spTick_tk (s := s') (p := p) (rule := 0)
      have ht2 : s'.2.2.2.2.2.2.2.2.2.2 ≤ 998 := by unfold spTkn at ht gt; omega
      have hI2 : spOK ns blk len b (spTick p 0 s').1 := ⟨spInv_tick hp.1 hp.2.1 hp.2.2.1 gI.1 ht2, spHal_tick gI.2⟩
      obtain ⟨g1, k1, e1, e2, e3, e4, e5, e6⟩ := c_tick (T := T) (o := o0 + 35) (pn := o0 + 78) (pl := pl) (rule := 0) hp.1 hp.2.1 hp.2.2.1 (by omega) (by omega) (by omega) hT g0 gP hp.2.2.2 gs gI.1 (show k + s'.2.2.2.1.1.length ≤ 1000000 by unfold spWtn at gw hk; omega) (by omega)
      have hkw : k1 + spWtn (spTick p 0 s').1 = k + spWtn s := by unfold spWtn at gw ⊢; omega
      have et : spTkn (spTick p 0 s').1 = spTkn s + 1 := by unfold spTkn at gt ⊢; omega
      obtain ⟨h', k', w1, w2, w3, w4, w5, w6, w7, w8⟩ := ih (i + 1) g1 c' sd' (spTick p 0 s').1 k1 (by omega) (by rw [e2 o0 (by omega) (by omega) (by omega), gf 8 (by decide)]; exact h8) (by rw [e2 pl (by omega) (by omega) (by omega), go pl (by omega) (by omega) (by omega) (by omega)]; exact h3) (by rw [e2 o0 (by omega) (by omega) (by omega)]; exact g5) hs0' hs1' e4 hI2 (by omega) e3 e5 (by omega) hn hc0' (by omega)
      refine ⟨h', k', (jloop_l (s' := (c', ((i + 1 : Nat) : Int), g1)) ?_).trans w1, fun z z0 z1 z2 z3 => by rw [w2 z z0 z1 z2 z3, e2 z (by omega) z2 z3, go z z0 z1 z2 z3], fun f hf => by rw [w3 f hf, e2 o0 (by omega) (by omega) (by omega), gf f hf], w4, w5, w6, by omega, w8⟩
      show G_chance_B22 T h o0 (n : Int) c (i : Int) = _
      rw [hb]
      unfold G_chance_p100
      rw [show St_passTick T g (o0 + 35) (o0 + 78) 0 = _ from e1]
      simp only [Option.bind_some]
      rw [pw (x := (i : Int) + 1) (by omega) (by omega)]
      rfl
    unfold spChs
    by_cases a : spDr 100 sd < nz
    rotate_left
    · rw [if_neg a] at b0 ⊢
      exact tick h1 c (spNx sd) s (fun z z0 _ _ _ => o1 z z0) f1 (by rw [hh1, ju_eq]) (spNx_in _).1 (spNx_in _).2 (hs.eq (fun z z1 z2 => o1 z (by omega))) hI rfl (CPl.eq hP (fun z z1 z2 => o1 z (by omega))) (by rw [o1 _ (by omega)]; exact h0) rfl hc0 (by omega) b0
    rw [if_pos a] at b0 ⊢
    have hs1D : CD h1 (o0 + 36) ns blk len s.1.1 s.1.2 := (hs.eq (h' := h1) (fun z z1 z2 => o1 z (by omega))).que.2.2.2.2.2.2.1
    have d2 := c_draw (h := h1) (o0 := o0) (m := (ns : Int)) (sd := spNx sd) (by rw [hh1, ju_eq]) (spNx_in _).1 (spNx_in _).2 (by omega) (by omega)
    obtain ⟨h2', hh2⟩ : ∃ h2' : jH, h2' = jup h1 o0 5 (spNx (spNx sd)) := ⟨_, rfl⟩
    rw [← hh2] at d2
    have o2 : ∀ z, z ≠ o0 → h2' z = h z := fun z hz => by rw [hh2, jup_ne hz, o1 z hz]
    have f2 : ∀ f, f ≠ 5 → h2' o0 f = h o0 f := fun f hf => by rw [hh2, ju_ne hf, f1 f hf]
    have hlen2 : h2' (o0 + 36) 3 = (len : Int) := by rw [hh2, jup_ne (by omega)]; exact hs1D.2.1
    have d3 := c_draw (h := h2') (o0 := o0) (m := (len : Int)) (sd := spNx (spNx sd)) (by rw [hh2, ju_eq]) (spNx_in _).1 (spNx_in _).2 (by omega) (by omega)
    obtain ⟨h3', hh3⟩ : ∃ h3' : jH, h3' = jup h2' o0 5 (spNx (spNx (spNx sd))) := ⟨_, rfl⟩
    rw [← hh3] at d3
    have o3 : ∀ z, z ≠ o0 → h3' z = h z := fun z hz => by rw [hh3, jup_ne hz, o2 z hz]
    have f3 : ∀ f, f ≠ 5 → h3' o0 f = h o0 f := fun f hf => by rw [hh3, ju_ne hf, f2 f hf]
    rw [hs1D.1, d2] at b0
    simp only [Option.bind_some] at b0
    rw [hlen2, d3] at b0
    simp only [Option.bind_some] at b0
    have a1 := spDr_in (m := (ns : Int)) (sd := spNx sd) (by omega)
    have a2 := spDr_in (m := (len : Int)) (sd := spNx (spNx sd)) (by omega)
    rw [hp.1, hp.2.2.1]
    generalize spDr (ns : Int) (spNx sd) = x1 at a1 b0 ⊢
    generalize spDr (len : Int) (spNx (spNx sd)) = x2 at a2 b0 ⊢
    have hadr := hd.adr (s := x1.toNat) (k := x2.toNat) (by omega) (by omega)
    have hmul : x1 * (len : Int) = ((x1.toNat * len : Nat) : Int) := by rw [Int.natCast_mul, show (x1.toNat : Int) = x1 by omega]
    rw [hmul, pw (x := ((x1.toNat * len : Nat) : Int)) (by omega) (by omega), pw (x := ((x1.toNat * len : Nat) : Int) + x2) (by omega) (by omega), show ((x1.toNat * len : Nat) : Int) + x2 = ((x1.toNat * len + x2.toNat : Nat) : Int) by omega, pw (x := c + 1) (by omega) (by omega)] at b0
    obtain ⟨g, t1, t2, t3⟩ := c_flp (s' := x1.toNat) (k := x2.toNat) (by omega) (by omega) (hs.eq (h' := h3') (fun z z1 z2 => o3 z (by omega))) hI.1
    rw [show Di_turn h3' (o0 + 36) ((x1.toNat * len + x2.toNat : Nat) : Int) = _ from t1] at b0
    simp only [Option.bind_some] at b0
    have e0 : spTkn (spFlp x1.toNat x2.toNat s) = spTkn s := by obtain ⟨⟨D, C⟩, r⟩ := s; rfl
    have e1 : spWtn (spFlp x1.toNat x2.toNat s) = spWtn s := by obtain ⟨⟨D, C⟩, r⟩ := s; rfl
    exact tick g (c + 1) (spNx (spNx (spNx sd))) (spFlp x1.toNat x2.toNat s) (fun z z0 z1 _ _ => by rw [t2 z (by omega) (by omega), o3 z z0]) (fun f hf => by rw [t2 o0 (by omega) (by omega), f3 f hf]) (by rw [t2 o0 (by omega) (by omega), hh3, ju_eq]) (spNx_in _).1 (spNx_in _).2 t3 ⟨spInv_flp (by omega) (by omega) hI.1, spHal_flp hI.2⟩ e1 (CPl.eq hP (fun z z1 z2 => by rw [t2 z (by omega) (by omega), o3 z (by omega)])) (by rw [t2 _ (by omega) (by omega), o3 _ (by omega)]; exact h0) e0 (by omega) (by omega) b0
theorem RC.chance {T : jT} {h : jH} {o0 pl B : Nat} {X : spX} {n nz sd : Int} (hn32 : jI32 n) (hp : spPp ns blk len p) (hB : B ≤ 1000000) (hk : spXk ns blk len b X) (r : RC T h o0 pl ns blk len p B X) (hsd : h o0 5 = sd) (hs0 : 0 ≤ sd) (hs1 : sd < 2147483648) (hnz : h pl 3 = nz) : ∃ h', G_chance T h o0 n = some ((spDChance p nz n sd X).1, h') ∧ RCh o0 pl h h' ∧ RC T h' o0 pl ns blk len p B (spDChance p nz n sd X).2.1 ∧ h' o0 5 = (spDChance p nz n sd X).2.2 := by
  have hd := hk.dim
  have hi := hk.1.1.que
  have r0 := r
  obtain ⟨⟨r1, r2, r3, r4, r5, r6, r7⟩, c, k, q1, q2, q3, q4, q5, q6, q7⟩ := r
  have hq := q5.que
  have hcp : G_canPass T h o0 n = some (if 1 ≤ n ∧ n ≤ 100 ∧ spTkn X.1 + n ≤ 999 then 1 else 0) := by
    unfold G_canPass G_canPass_p37
    rw [r0.told hd]
    simp only [Option.bind_some]
    rw [if_neg (by decide), hq.2.2.2.2.2.2.2]
    by_cases a1 : n < 1
    · rw [if_pos a1, if_neg (by omega)]
    rw [if_neg a1]
    by_cases a2 : 100 < n
    · rw [if_pos a2, if_neg (by omega)]
    rw [if_neg a2, pw (by omega) (by omega)]
    unfold spTkn
    by_cases a3 : 999 < X.1.2.2.2.2.2.2.2.2.2.2 + n
    · rw [if_pos a3, if_neg (by omega)]
    · rw [if_neg a3, if_pos (by omega)]
  unfold G_chance spDChance
  rw [hcp]
  simp only [Option.bind_some]
  by_cases a : 1 ≤ n ∧ n ≤ 100 ∧ spTkn X.1 + n ≤ 999
  rotate_left
  · rw [if_neg a, if_neg a, if_pos rfl]
    obtain ⟨g, e1, e2, e3⟩ := r0.refuse (k := 3) (by decide)
    rw [show G_refuse h o0 3 = _ from e1]
    exact ⟨g, rfl, e2.h, e3, by rw [e2.2 5 (by decide) (by decide)]; exact hsd⟩
  rw [if_pos a, if_pos a, if_neg (by decide)]
  obtain ⟨g, e1, e2, e3, e4⟩ := r0.rem hk
  rw [e1]
  simp only [Option.bind_some]
  have gs : CS g (o0 + 35) ns blk len k X.1 := q5.eq (fun z z1 z2 => e4 z (by omega) (by omega))
  have hw8 := hk.1.1.wt8
  have q6' : k + spWtn X.1 ≤ B := q6
  obtain ⟨g2, k2, x1, x2, x3, x4, x5, x6, x7, x8⟩ := c_chncL (T := T) (n := n.toNat) (nz := nz) hp hd r3 r2 n.toNat 0 g 0 sd X.1 k (by omega) (by rw [e2.2 8 (by decide) (by decide)]; exact r4) (by rw [e2.1 pl (by omega) (by omega) (by omega) (by omega)]; exact hnz) (by rw [e2.2 5 (by decide) (by decide)]; exact hsd) hs0 hs1 gs hk.1 (by omega) e3.1.2.2.2.2.2.1 (by rw [e4 _ (by omega) (by omega)]; exact q7) (by omega) (by omega) (by omega) (by omega)
  rw [show (n.toNat : Int) = n by omega] at x1
  rw [show G_chance_L22 T g o0 n 0 0 = _ from x1]
  have e3' : RC T (jup g o0 5 (g2 o0 5)) o0 pl ns blk len p B (spRem X) := e3.off (fun z hz => jup_ne (by omega)) (fun f hf => ju_ne (by omega))
  have x2' : ∀ z, (z < o0 + 35 ∨ o0 + 84 < z) → (z < pl + 1 ∨ pl + 8 < z) → g2 z = (jup g o0 5 (g2 o0 5)) z := fun z z1 z2 => by
    by_cases w : z = o0
    · subst w
      funext f
      rw [ju_if]
      by_cases w2 : f = 5
      · rw [if_pos w2, w2]
      · rw [if_neg w2]; exact x3 f w2
    · rw [jup_ne w]; exact x2 z w (by omega) (by omega) z2
  refine ⟨g2, rfl, e2.h.tr ⟨fun z z0 _ z3 z4 => x2 z z0 (by omega) (by omega) z3, fun f f0 _ _ => x3 f f0⟩, e3'.set (Nat.le_refl _) x2' x4 x5 (show k2 + spWtn (spChs p nz n.toNat X.1 sd 0).1 ≤ B by omega) x6, x8⟩
theorem RC.seed {T : jT} {h : jH} {o0 pl B : Nat} {X : spX} {x sd : Int} (r : RC T h o0 pl ns blk len p B X) (hsd : h o0 5 = sd) : ∃ h', G_seed h o0 x = some ((spDSeed x sd X).1, h') ∧ RCh o0 pl h h' ∧ RC T h' o0 pl ns blk len p B (spDSeed x sd X).2.1 ∧ h' o0 5 = (spDSeed x sd X).2.2 := by
  unfold G_seed spDSeed
  by_cases a : x < 0
  · rw [if_pos a, if_pos a]
    obtain ⟨g, e1, e2, e3⟩ := r.deny (k := 6) (by decide)
    rw [show G_deny h o0 6 = _ from e1]
    simp only [Option.bind_some]
    rw [if_pos (Or.inl True.intro)]
    exact ⟨g, rfl, e2.h, e3, by rw [e2.2 5 (by decide) (by decide)]; exact hsd⟩
  · rw [if_neg a, if_neg a]
    have hpl := r.1.2.2.1
    exact ⟨_, rfl, ⟨fun z z1 _ _ _ => jup_ne z1, fun f f1 _ _ => ju_ne f1⟩, r.off (fun z hz => jup_ne (by omega)) (fun f hf => ju_ne (by omega)), ju_eq⟩
end CHN
