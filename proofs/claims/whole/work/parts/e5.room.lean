/-! how many records have room, on both sides -/
def spDRoom (ns blk len : Nat) (v : Int) (X : spX) : Int := if X.1.2.2.2.2.2.2.2.2.2.1 = false ∧ 0 ≤ v ∧ v ≤ 40 then (spRoom ns blk len X.1.2.2.2.2.1.2.2.2 X.1.2.2.2.2.1.2.2.1 (0, 0, v, 0) 512 (X.1.2.2.1.2.2 + (X.1.2.2.1.2.1 : Int)) (spX0 X.1) : Int) else -1
section ROM
variable {T : jT} {ns blk len : Nat} {b : Int} {p : spPl} {X : spX}
theorem spX0_LJ {s : spSt} (hI : spInv ns blk len b s) : spLI ns len s.2.2.2.2.1.2.2.2 s.2.2.2.2.1.2.2.1 s.2.2.2.2.2.1 (spX0 s) := by
  obtain ⟨⟨D, C⟩, ⟨F, lf⟩, ⟨q, fl, first⟩, ⟨wt, kp⟩, ⟨tab, stab, snap, tops⟩, ⟨sg, at', ser, gr, hl, tk⟩⟩ := s
  obtain ⟨i1, i2, i3, i4, i5, i6, u, u1, u2, u3, u4⟩ := hI
  have hsn : snap ≤ first := by omega
  refine ⟨i6.1, i6.2.1, by show decide (sg = sg) = true; simp, fun i _ _ => rfl, ⟨u, u1, u2, fun i _ _ ht => ?_, u3, u4⟩, fun e he => ⟨(i2.1 e he).1, (i2.1 e he).2.1, Or.inr ?_⟩, fun i _ hv => Or.inl ?_, i6.2.2.1, i6.2.2.2.1⟩
  · by_cases a : u i = 0
    · exact a
    · obtain ⟨e, he, h2⟩ := u4 i a
      have := (i2.1 e he).2.2.2.2
      rw [h2] at this
      exact absurd ht (by show ¬ tops i < snap; omega)
  · have := (i2.1 e he).2.2.2.2
    show snap ≤ tops e.1
    omega
  · have : decide (i = sg) = true := hv
    simpa using this
theorem RC.room {h : jH} {o0 pl B : Nat} {v : Int} (hk : spXk ns blk len b X) (r : RC T h o0 pl ns blk len p B X) : ∃ h', G_room T h o0 v = some (spDRoom ns blk len v X, h') ∧ RCf o0 pl h h' ∧ RC T h' o0 pl ns blk len p B X := by
  have hd := hk.dim
  have r0 := r
  obtain ⟨⟨r1, r2, r3, r4, r5, r6, r7⟩, c, n, q1, q2, q3, q4, q5, q6, q7⟩ := r
  unfold G_room spDRoom
  rw [r0.told hd]
  simp only [Option.bind_some]
  have hI := hk.1.1
  clear hk
  generalize X.1 = s at hI q5 q6 ⊢
  have hX := spX0_LJ hI
  obtain ⟨⟨D, C⟩, ⟨F, lf⟩, ⟨q, fl, first⟩, ⟨wt, kp⟩, ⟨tab, stab, snap, tops⟩, ⟨sg, at', ser, gr, hl, tk⟩⟩ := s
  obtain ⟨i1, i2, i3, i4, i5, i6, i7⟩ := hI
  obtain ⟨c1, ⟨c2, c2'⟩, c3, ⟨c4, c4'⟩, ⟨t1, t2, t3, t4⟩, p1, p2, p3, p4, p5, p6⟩ := q5
  rw [if_neg (by decide), p5]
  dsimp only
  by_cases a0 : hl = true
  · rw [if_pos a0, if_neg (by decide), if_neg (by rw [a0]; simp)]
    exact ⟨h, rfl, RCf.rf, r0⟩
  rw [if_neg a0, if_pos rfl]
  by_cases a1 : v < 0
  · rw [if_pos a1, if_neg (by omega)]; exact ⟨h, rfl, RCf.rf, r0⟩
  rw [if_neg a1]
  by_cases a2 : v < 41
  rotate_left
  · rw [if_neg a2, if_neg (by omega)]; exact ⟨h, rfl, RCf.rf, r0⟩
  rw [if_pos a2, if_pos ⟨by simpa using a0, by omega, by omega⟩]
  have hsg : sg < 4 := by have := i1.1.2.1; omega
  obtain ⟨g0, e1, e2, e3⟩ := c_start (h := h) (o := o0 + 35) (pn := o0 + 78) hsg (by omega) p1 p2 p3 p4
  unfold Pe_roomFor
  rw [e1]
  simp only [Option.bind_some]
  obtain ⟨g1, x1, x2⟩ := c_roomForL (o := o0 + 35) (pn := o0 + 78) (st := sg) (tp := tops) (snap := snap) (r := (0, 0, v, 0)) i1.1 (by omega) (by unfold spRok; dsimp only; omega) 512 0 g0 (first + (fl : Int)) (spX0 ((D, C), (F, lf), (q, fl, first), (wt, kp), (tab, stab, snap, tops), (sg, at', ser, gr, hl, tk))) (by omega) (c1.fr (e2 _ (by omega)) (e2 _ (by omega)) (e2 _ (by omega))) e3 (by rw [e2 _ (by omega)]; exact t3) (fun j hj => by rw [e2 _ (by omega)]; exact t4 j hj) hX
  have hz : ((spSz ((0, 0, v, 0) : spRec) : Nat) : Int) = 3 + v := by
    unfold spSz
    dsimp only
    omega
  rw [hz] at x1
  rw [pw (x := 3 + v) (by omega) (by omega), show Pe_roomFor_L7 g0 (o0 + 78) (o0 + 35) (3 + v) 0 = _ from x1]
  simp only [Option.bind_some]
  rw [Nat.zero_add]
  have ho : ∀ z, z ≠ o0 + 78 → g1 z = h z := fun z hz => by rw [x2 z hz, e2 z hz]
  exact ⟨g1, rfl, ⟨fun z _ _ _ z4 => ho z (by omega), fun f _ _ => by rw [ho o0 (by omega)]⟩, r0.same (fun z z1 _ => ho z (by omega)) (CPl.eq r6 (fun z z1 z2 => ho z (by omega)))⟩
/-- back from a thought of which only the kept list is known -/
theorem m_backK {h g : jH} {o : Nat} {s : spSt} (hs : MS h o ns blk len s.2.2.2.1.2 s) (hI : spInv ns blk len b s) (t1 : ∀ i, i < 2244 → g (o + 36) i = h (o + 33) i) (t2 : MKp (g (o + 33)) s.2.2.2.1.2) (t3 : g (o + 28) = h (o + 28)) : ∃ h', M_takesBack g o = some h' ∧ (∀ z, z ≠ o → z ≠ o + 33 → h' z = g z) ∧ (∀ f, f ≠ 56 → h' o f = g o f) ∧ h' o 56 = 0 ∧ MS h' o ns blk len s.2.2.2.1.2 s := by
  obtain ⟨h', e1, e2, e3⟩ := m_anew (h := g) (o := o)
  have hj : MS h' o ns blk len s.2.2.2.1.2 s := MS.join hI hs (by rw [e2 _ (by omega)]; exact t3) (fun i hi => by rw [e3, if_pos hi]; exact t1 i hi) (by
    have hk := t2
    refine ⟨by rw [e3, if_neg (by omega)]; exact hk.1, hk.2.1, fun i e he => ?_⟩
    rw [e3, e3, e3, if_neg (by omega), if_neg (by omega), if_neg (by omega)]
    exact hk.2.2 i e he)
  unfold M_takesBack
  rw [e1]
  exact ⟨_, rfl, fun z z1 z2 => by rw [jup_ne z1, e2 z z2], fun f hf => by rw [ju_ne hf, e2 o (by omega)], ju_eq, hj.eq (jup_ne (by omega)) (jup_ne (by omega))⟩
theorem m_laidOf {g : jH} {o st : Nat} {tp : Nat → Int} {snap num v : Int} {x : spL} {D C : Nat → Nat → Int} {kpm : spKp} (hv : 0 ≤ v ∧ v ≤ 40) (hd0 : spDim ns blk len) (hc : MD g o ns blk len D C) (hx : MX (g (o + 33)) x) (hI : spLI ns len tp snap st x) (hst : x.1.2.2.2.2 st = true) (h13 : g (o + 33) 13 = (st : Int) + 1) (h9 : g (o + 33) 9 = snap) (h1 : g (o + 33) 1 = num) (hn0 : 0 ≤ num) (hn1 : num ≤ 2000000000) (hkp : MKp (g (o + 33)) kpm) :
    ∃ g', M_isLaidOf g o v = some (if spOne ns blk len tp snap (0, 0, v, 0) num x = none then 0 else 1, g') ∧ (∀ z, z ≠ o → z ≠ o + 33 → z ≠ o + 34 → g' z = g z) ∧ (∀ f, f ≠ 50 → g' o f = g o f) ∧ MD g' o ns blk len D C ∧ MKp (g' (o + 33)) kpm ∧ ∀ y, spOne ns blk len tp snap (0, 0, v, 0) num x = some y → MX (g' (o + 33)) y ∧ spLI ns len tp snap st y ∧ y.1.2.2.2.2 st = true ∧ g' (o + 33) 13 = (st : Int) + 1 ∧ g' (o + 33) 9 = snap ∧ g' (o + 33) 1 = num + 1 := by
  have hr : spRok ((0, 0, v, 0) : spRec) := by unfold spRok; dsimp only; omega
  obtain ⟨a, ha⟩ : ∃ a : Nat, a = 16 + 4 * (num % 32).toNat := ⟨_, rfl⟩
  have ha2 : a ≤ 140 ∧ 16 ≤ a := by omega
  unfold M_isLaidOf
  rw [if_pos (by decide), show ((1 : Int)).toNat = 1 from rfl, h1, pj_31]
  rw [pw (x := 4 * (num % 32)) (by omega) (by omega), pw (x := 16 + 4 * (num % 32)) (by omega) (by omega), pw (x := 16 + 4 * (num % 32) + 1) (by omega) (by omega), pw (x := 16 + 4 * (num % 32) + 2) (by omega) (by omega)]
  rw [show (16 + 4 * (num % 32) : Int).toNat = a by omega, show (16 + 4 * (num % 32) + 1 : Int).toNat = a + 1 by omega, show (16 + 4 * (num % 32) + 2 : Int).toNat = a + 2 by omega]
  rw [if_pos (show (0 : Int) ≤ 16 + 4 * (num % 32) ∧ a < 2365 by omega), if_pos (show (0 : Int) ≤ 16 + 4 * (num % 32) + 1 ∧ a + 1 < 2365 by omega), if_pos (show (0 : Int) ≤ 16 + 4 * (num % 32) + 2 ∧ a + 2 < 2365 by omega), if_pos (show (0 : Int) ≤ 1 ∧ 1 < 2365 by omega), if_pos (show (0 : Int) ≤ 1 ∧ 1 < 2365 by omega)]
  rw [ju_ne (show 1 ≠ a + 2 by omega), ju_ne (show 1 ≠ a + 1 by omega), ju_ne (show 1 ≠ a by omega), h1, pw (x := num + 1) (by omega) (by omega)]
  obtain ⟨g1, hg⟩ : ∃ g1 : jH, g1 = jup (jup (jup (jup g (o + 33) a 0) (o + 33) (a + 1) 0) (o + 33) (a + 2) v) (o + 33) 1 (num + 1) := ⟨_, rfl⟩
  rw [← hg]
  have go : ∀ z, z ≠ o + 33 → g1 z = g z := fun z hz => by rw [hg, jup_ne hz, jup_ne hz, jup_ne hz, jup_ne hz]
  have gw : ∀ i, i ≠ 1 → (i < 16 ∨ 144 ≤ i) → g1 (o + 33) i = g (o + 33) i := fun i i1 i2 => by rw [hg, ju_ne i1, ju_ne (by omega), ju_ne (by omega), ju_ne (by omega)]
  have gr : MQr (g1 (o + 33)) num ((0, 0, v, 0) : spRec) := by
    refine ⟨?_, ?_, ?_⟩
    · rw [← ha, hg, ju_ne (by omega), ju_ne (by omega), ju_ne (by omega), ju_eq]
    · rw [← ha, hg, ju_ne (by omega), ju_ne (by omega), ju_eq]
    · rw [← ha, hg, ju_ne (by omega), ju_eq]
  have hc1 : MD g1 o ns blk len D C := hc.fr hd0 (go _ (by omega)) (fun i h0 h1 => gw i (by omega) (by omega))
  have hx1 : MX (g1 (o + 33)) x := by
    obtain ⟨y1, y2, y3, y4, y5, y6⟩ := hx
    refine ⟨by rw [gw 5 (by decide) (by omega)]; exact y1, by rw [gw 6 (by decide) (by omega)]; exact y2, by rw [gw 7 (by decide) (by omega)]; exact y3, by rw [gw 8 (by decide) (by omega)]; exact y4, ⟨by rw [gw 4 (by decide) (by omega)]; exact y5.1, fun i e he => ?_⟩, fun i hi => by rw [gw _ (by omega) (by omega)]; exact y6 i hi⟩
    rw [gw _ (by omega) (by omega), gw _ (by omega) (by omega)]
    exact y5.2 i e he
  obtain ⟨g2, e1, e2, e3⟩ := m_one (num := num) hr hd0 hc1 hx1 hI hst (by rw [gw 13 (by decide) (by omega)]; exact h13) (by rw [gw 9 (by decide) (by omega)]; exact h9) gr (by unfold jI32; omega)
  rw [e1]
  simp only [Option.bind_some]
  have e24 : ∀ i, i ≠ 4 → i ≠ 5 → i ≠ 6 → i ≠ 7 → i ≠ 8 → ¬ (192 ≤ i ∧ i < 196) → (i < 1220 ∨ 2244 ≤ i) → g2 (o + 33) i = g1 (o + 33) i := e2.2.2
  refine ⟨g2, ?_, fun z z1 z2 z3 => by rw [e2.1 z z1 z2 z3, go z z2], fun f hf => by rw [e2.2.1 f hf, go o (by omega)], e2.md hd0 hc1, ⟨by rw [e24 _ (by omega) (by omega) (by omega) (by omega) (by omega) (by omega) (by omega), gw _ (by omega) (by omega)]; exact hkp.1, hkp.2.1, fun i e he => ?_⟩, fun y hy => ⟨(e3 y hy).1, (spOne_LI hd0 hy hI).1, (e3 y hy).2, by rw [e24 13 (by omega) (by omega) (by omega) (by omega) (by omega) (by omega) (by omega), gw 13 (by omega) (by omega)]; exact h13, by rw [e24 9 (by omega) (by omega) (by omega) (by omega) (by omega) (by omega) (by omega), gw 9 (by omega) (by omega)]; exact h9, by rw [e24 1 (by omega) (by omega) (by omega) (by omega) (by omega) (by omega) (by omega), hg, ju_eq]⟩⟩
  · by_cases a : spOne ns blk len tp snap (0, 0, v, 0) num x = none
    · rw [if_pos a, if_pos (Or.inl rfl)]
    · rw [if_neg a, if_pos (Or.inr rfl)]
  · have := hkp.2.2 i e he
    rw [e24 _ (by omega) (by omega) (by omega) (by omega) (by omega) (by omega) (by omega), e24 _ (by omega) (by omega) (by omega) (by omega) (by omega) (by omega) (by omega), e24 _ (by omega) (by omega) (by omega) (by omega) (by omega) (by omega) (by omega), gw _ (by omega) (by omega), gw _ (by omega) (by omega), gw _ (by omega) (by omega)]
    exact this
theorem m_roomL {h : jH} {o st : Nat} {tp : Nat → Int} {snap v : Int} {s : spSt} {D C : Nat → Nat → Int} (hs : MS h o ns blk len s.2.2.2.1.2 s) (hI0 : spInv ns blk len b s) (hv : 0 ≤ v ∧ v ≤ 40) (hd0 : spDim ns blk len) : ∀ (f c : Nat) (g : jH) (num : Int) (x : spL), 512 < x.2.1.length + 4 * f → c + f = 512 → MD g o ns blk len D C → MX (g (o + 33)) x → spLI ns len tp snap st x → x.1.2.2.2.2 st = true → g (o + 33) 13 = (st : Int) + 1 → g (o + 33) 9 = snap → g (o + 33) 1 = num → 0 ≤ num → num ≤ 1000000 + (c : Int) → MKp (g (o + 33)) s.2.2.2.1.2 → (∀ i, i < 2244 → g (o + 36) i = h (o + 33) i) → g (o + 28) = h (o + 28) →
    ∃ g', M_room_L69 g o v (c : Int) = some (((c + spRoom ns blk len tp snap (0, 0, v, 0) f num x : Nat) : Int), g') ∧ (∀ z, z ≠ o → z ≠ o + 33 → z ≠ o + 34 → g' z = g z) ∧ (∀ f, f ≠ 50 → f ≠ 56 → g' o f = g o f) ∧ g' o 56 = 0 ∧ MS g' o ns blk len s.2.2.2.1.2 s := by
  unfold M_room_L69
  intro f
  induction f with
  | zero =>
    intro c g num x hf _ hc hx hI
    have := spLI_len hd0 hI
    omega
  | succ f ih =>
    intro c g num x hf hcf hc hx hI hst h13 h9 h1 hn0 hn1 hkp ha hz
    obtain ⟨g1, e1, e2, e3, e4, e5, e6⟩ := m_laidOf hv hd0 hc hx hI hst h13 h9 h1 hn0 (by omega) hkp
    unfold spRoom
    cases ho : spOne ns blk len tp snap (0, 0, v, 0) num x with
    | none =>
      rw [ho, if_pos rfl] at e1
      obtain ⟨g2, w1, w2, w3, w4, w5⟩ := m_backK (g := g1) hs hI0 (fun i hi => by rw [e2 _ (by omega) (by omega) (by omega)]; exact ha i hi) e5 (by rw [e2 _ (by omega) (by omega) (by omega)]; exact hz)
      refine ⟨g2, jloop_r ?_, fun z z1 z2 z3 => by rw [w2 z z1 z2, e2 z z1 z2 z3], fun f f1 f2 => by rw [w3 f f2, e3 f f1], w4, w5⟩
      show M_room_B69 g o v (c : Int) = _
      unfold M_room_B69
      rw [e1]
      simp only [Option.bind_some]
      rw [if_pos True.intro, w1]
      rfl
    | some y =>
      rw [ho, if_neg (by simp)] at e1
      obtain ⟨y1, y2, y3, y4, y5, y6⟩ := e6 y ho
      have hlen := (spOne_LI hd0 ho hI).2
      obtain ⟨g2, w1, w2, w3, w4, w5⟩ := ih (c + 1) g1 (num + 1) y (by omega) (by omega) e4 y1 y2 y3 y4 y5 y6 (by omega) (by omega) e5 (fun i hi => by rw [e2 _ (by omega) (by omega) (by omega)]; exact ha i hi) (by rw [e2 _ (by omega) (by omega) (by omega)]; exact hz)
      refine ⟨g2, (jloop_l (s' := (((c + 1 : Nat) : Int), g1)) ?_).trans (w1.trans ?_), fun z z1 z2 z3 => by rw [w2 z z1 z2 z3, e2 z z1 z2 z3], fun f f1 f2 => by rw [w3 f f1 f2, e3 f f1], w4, w5⟩
      · show M_room_B69 g o v (c : Int) = _
        unfold M_room_B69
        rw [e1]
        simp only [Option.bind_some]
        rw [if_neg (by decide), pw (x := (c : Int) + 1) (by omega) (by omega)]
        rfl
      · congr 2
        show ((c + 1 + spRoom ns blk len tp snap (0, 0, v, 0) f (num + 1) y : Nat) : Int) = ((c + (spRoom ns blk len tp snap (0, 0, v, 0) f (num + 1) y + 1) : Nat) : Int)
        omega
theorem RM.room {h : jH} {o : Nat} {v : Int} (hk : spXk ns blk len b X) (r : RM h o ns blk len p X) : ∃ h', M_room h o v = some (spDRoom ns blk len v X, h') ∧ RMf o h h' ∧ RM h' o ns blk len p X := by
  have hd := hk.dim
  obtain ⟨m, q1, q2, q3, q4, q5, q6⟩ := r.2
  have hq := q6.que
  unfold M_room spDRoom
  rw [if_neg r.told, m_isIn]
  simp only [Option.bind_some]
  by_cases a : 0 ≤ v ∧ v ≤ 40
  rotate_left
  · rw [if_neg a, if_pos rfl, if_neg (by omega)]
    exact ⟨h, rfl, RMf.rf, r⟩
  rw [if_pos a, if_neg (by decide), if_pos (by decide), show ((10 : Int)).toNat = 10 from rfl, hq.2.2.2.1]
  by_cases a0 : X.1.2.2.2.2.2.2.2.2.2.1 = true
  · rw [if_pos a0, if_pos rfl, if_neg (by rw [a0]; simp)]
    exact ⟨h, rfl, RMf.rf, r⟩
  rw [if_neg a0, if_neg (by decide), if_pos ⟨by simpa using a0, a.1, a.2⟩]
  obtain ⟨g, e1, e2, e3, e4, e5, e6, e7⟩ := r.aside
  rw [e1]
  simp only [Option.bind_some]
  rw [if_pos (by decide), if_pos (by decide), if_pos (by decide), if_pos (by decide), if_pos (by decide)]
  rw [show ((1 : Int)).toNat = 1 from rfl, show ((11 : Int)).toNat = 11 from rfl, show ((5 : Int)).toNat = 5 from rfl, show ((13 : Int)).toNat = 13 from rfl]
  have hq2 := e6.que
  have hp2 := e6.pla
  have hi := hk.1.1.que
  have hX := spX0_LJ hk.1.1
  have hkp := e6.kp
  have hMX : MX (g (o + 33)) (spX0 X.1) := by
    generalize X.1 = s at e6 ⊢
    obtain ⟨⟨D, C⟩, ⟨F, lf⟩, ⟨q, fl, first⟩, ⟨wt, kp⟩, ⟨tab, stab, snap, tops⟩, ⟨sg, at', ser, gr, hl, tk⟩⟩ := s
    obtain ⟨c1, ⟨c2, c2'⟩, c3, ⟨c4, c4', c4''⟩, c5, ⟨t1, t2, t3, t4⟩, p1, p2, p3, p4, p5, p6, p7⟩ := e6
    exact ⟨p1, p2, p3, p4, c2, t4⟩
  have hst : (spX0 X.1).1.2.2.2.2 X.1.2.2.2.2.2.1 = true := by show decide (_ = _) = true; simp
  have hsg : X.1.2.2.2.2.2.1 < ns := hX.1
  have hn4 := hd.2.1
  have hw : (spWtg X.1 : Int) = (X.1.2.2.1.1.length : Int) - (X.1.2.2.1.2.1 : Int) := by unfold spWtg; omega
  rw [hq2.1, hq2.2.2.1, hw, pw (x := X.1.2.2.1.2.2 + (X.1.2.2.1.1.length : Int) - ((X.1.2.2.1.1.length : Int) - (X.1.2.2.1.2.1 : Int))) (by omega) (by omega), ju_ne (show 5 ≠ 1 by decide), hp2.1, pw (x := (X.1.2.2.2.2.2.1 : Int) + 1) (by omega) (by omega)]
  rw [show X.1.2.2.1.2.2 + (X.1.2.2.1.1.length : Int) - ((X.1.2.2.1.1.length : Int) - (X.1.2.2.1.2.1 : Int)) = X.1.2.2.1.2.2 + (X.1.2.2.1.2.1 : Int) by omega]
  obtain ⟨g1, hg⟩ : ∃ g1 : jH, g1 = jup (jup g (o + 33) 1 (X.1.2.2.1.2.2 + (X.1.2.2.1.2.1 : Int))) (o + 33) 13 ((X.1.2.2.2.2.2.1 : Int) + 1) := ⟨_, rfl⟩
  rw [← hg]
  have go : ∀ z, z ≠ o + 33 → g1 z = g z := fun z hz => by rw [hg, jup_ne hz, jup_ne hz]
  have gw : ∀ i, i ≠ 1 → i ≠ 13 → g1 (o + 33) i = g (o + 33) i := fun i i1 i2 => by rw [hg, ju_ne i2, ju_ne i1]
  obtain ⟨g2, x1, x2, x3, x4, x5⟩ := m_roomL (h := h) (g := g1) (st := X.1.2.2.2.2.2.1) (tp := X.1.2.2.2.2.1.2.2.2) (snap := X.1.2.2.2.2.1.2.2.1) (num := X.1.2.2.1.2.2 + (X.1.2.2.1.2.1 : Int)) (x := spX0 X.1) q6 hk.1.1 a hd 512 0 (by omega) (by omega) (hq2.2.2.2.2.2.2.2.2.1.fr hd (go _ (by omega)) (fun i h0 h1 => gw i (by omega) (by omega))) (by
      obtain ⟨y1, y2, y3, y4, y5, y6⟩ := hMX
      refine ⟨by rw [gw 5 (by decide) (by decide)]; exact y1, by rw [gw 6 (by decide) (by decide)]; exact y2, by rw [gw 7 (by decide) (by decide)]; exact y3, by rw [gw 8 (by decide) (by decide)]; exact y4, ⟨by rw [gw 4 (by decide) (by decide)]; exact y5.1, fun i e he => ?_⟩, fun i hi => by rw [gw _ (by omega) (by omega)]; exact y6 i hi⟩
      rw [gw _ (by omega) (by omega), gw _ (by omega) (by omega)]
      exact y5.2 i e he) hX hst (by rw [hg, ju_eq]) (by rw [gw 9 (by decide) (by decide)]; exact hq2.2.2.2.2.1) (by rw [hg, ju_ne (by decide), ju_eq]) (by omega) (by omega) (by
      refine ⟨by rw [gw _ (by omega) (by omega)]; exact hkp.1, hkp.2.1, fun i e he => ?_⟩
      rw [gw _ (by omega) (by omega), gw _ (by omega) (by omega), gw _ (by omega) (by omega)]
      exact hkp.2.2 i e he) (fun i hi => by rw [go _ (by omega)]; exact e5 i hi) (by rw [go _ (by omega)]; exact e7)
  rw [Nat.zero_add] at x1
  rw [show M_room_L69 g1 o v 0 = _ from x1]
  have ez : ∀ z, z ≠ o → z ≠ o + 33 → z ≠ o + 34 → z ≠ o + 36 → g2 z = h z := fun z z1 z2 z3 z4 => by rw [x2 z z1 z2 z3, go z z2, e2 z z1 z4]
  have ef : ∀ f, f ≠ 50 → f ≠ 56 → g2 o f = h o f := fun f f1 f2 => by rw [x3 f f1 f2, go o (by omega), e3 f f2]
  exact ⟨g2, rfl, ⟨fun z z1 _ z3 z4 _ z6 _ _ _ => ez z z1 z3 z4 z6, fun f _ _ _ f4 _ _ _ _ f9 _ _ _ _ => ef f f4 f9⟩, r.same (fun z hz => ez z (by omega) (by omega) (by omega) (by omega)) (fun f hf => ef f (by omega) (by omega)) (by rw [ef 52 (by decide) (by decide)]; exact r.1.2.1) x4 (by rw [ef 53 (by decide) (by decide)]; exact r.1.2.2.2.1) x5⟩
end ROM
