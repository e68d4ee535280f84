/-! a byte's turning tried: the reference -/
section FLM
variable {ns blk len : Nat} {b : Int} {p : spPl} {X : spX}
theorem RT.turn {h g : jH} {o s' k : Nat} {s sX : spSt} (hs' : s' < ns) (hk : k < len) (hI : spInv ns blk len b sX) (t : RT h g o ns blk len s sX) : ∃ h', M_turns g o ((128 * s' + k : Nat) : Int) = some h' ∧ (∀ q, q ≠ o + 33 → h' q = g q) ∧ RT h h' o ns blk len s (spFlp s' k sX) := by
  obtain ⟨t1, t2, t3⟩ := t
  obtain ⟨h', e1, e2, e3⟩ := m_flp hs' hk t2 hI
  exact ⟨h', e1, e2, fun i hi => by rw [e2 _ (by omega)]; exact t1 i hi, e3, by rw [e2 _ (by omega)]; exact t3⟩
/-- what a trial of a crash may change -/
def RTf (o : Nat) (g g' : jH) : Prop := (∀ z, z ≠ o → z ≠ o + 33 → z ≠ o + 37 → g' z = g z) ∧ ∀ f, (f < 59 ∨ 65 < f) → g' o f = g o f
theorem RTf.rf {o : Nat} {g : jH} : RTf o g g := ⟨fun _ _ _ _ => rfl, fun _ _ => rfl⟩
theorem RTf.tr {o : Nat} {h h1 h2 : jH} (a : RTf o h h1) (b : RTf o h1 h2) : RTf o h h2 := ⟨fun z x1 x2 x3 => (b.1 z x1 x2 x3).trans (a.1 z x1 x2 x3), fun f x => (b.2 f x).trans (a.2 f x)⟩
theorem m_flipsB {h g : jH} {o sg k : Nat} {v v2 v3 : Int} {s : spSt} (hd : spDim ns blk len) (hs : MS h o ns blk len s.2.2.2.1.2 s) (hI : spInv ns blk len b s) (hsg : sg < ns) (hk : k < len) (t : RT h g o ns blk len s s) (h3 : v3 = (spCra ns blk len 0 s).2.2.1.2.2) (h2 : v2 = spFln ns blk len s v (sg * len + k)) : ∃ g', M_flips_B58 g o v v2 v3 (sg : Int) (k : Int) = some (.inl (spFln ns blk len s v (sg * len + k + 1), ((k + 1 : Nat) : Int), g')) ∧ RTf o g g' ∧ RT h g' o ns blk len s s := by
  have hq := t.2.1.que
  have hl := hd.len
  have hdm := hd.adr hsg hk
  have h4 := hd.2.1
  unfold M_flips_B58
  rw [m_len hq.2.2.2.2.2.2.2.2.1 hd]
  simp only [Option.bind_some]
  rw [if_pos (show (k : Int) < (len : Int) by omega), pw (x := 128 * (sg : Int)) (by omega) (by omega), pw (x := 128 * (sg : Int) + (k : Int)) (by omega) (by omega), show 128 * (sg : Int) + (k : Int) = ((128 * sg + k : Nat) : Int) by omega]
  obtain ⟨g1, e1, e2, e3⟩ := t.turn hsg hk hI
  rw [e1]
  simp only [Option.bind_some]
  obtain ⟨g2, x1, x2, x3, x4⟩ := e3.crash (k := 0) (spInv_flp hsg hk hI) (Nat.zero_le _)
  rw [show M_crashes g1 o 0 = _ from x1]
  simp only [Option.bind_some]
  obtain ⟨g3, y1, y2, y3⟩ := x4.anew hs hI
  have hq2 := x4.2.1.que
  rw [if_pos (show (0 : Int) ≤ 10 ∧ (10 : Int).toNat < 2365 by decide), show ((10 : Int)).toNat = 10 from rfl, hq2.2.2.2.1, if_pos (show (0 : Int) ≤ 1 ∧ (1 : Int).toNat < 2365 by decide), show ((1 : Int)).toNat = 1 from rfl, hq2.1]
  refine ⟨g3, ?_, ⟨fun z z1 z2 z3 => by rw [y2 z z2, x2 z z1 z2 z3, e2 z z2], fun f hf => by rw [y2 o (by omega), x3 f hf, e2 o (by omega)]⟩, y3⟩
  have hl0 : (spCra ns blk len 0 (spFlp sg k s)).2.2.1.1.length = 0 := by
    obtain ⟨⟨D, C⟩, ⟨F, lf⟩, ⟨q, fl, first⟩, ⟨wt, kp⟩, ⟨tab, stab, snap, tops⟩, ⟨sg', at', ser, gr, hl, tk⟩⟩ := s
    rfl
  rw [hl0, h3]
  have hdv : (sg * len + k) / len = sg ∧ (sg * len + k) % len = k := by
    have h0 : 0 < len := by omega
    rw [Nat.mul_comm]
    exact ⟨by rw [Nat.mul_add_div h0, Nat.div_eq_of_lt hk, Nat.add_zero], by rw [Nat.mul_add_mod, Nat.mod_eq_of_lt hk]⟩
  have hi := spFln_in (ns := ns) (blk := blk) (len := len) (s := s) (v := v) (sg * len + k)
  have fin : ∀ w : Int, w = spFlc ns blk len s (sg * len + k) → M_flips_p115 g2 o v v2 (spCra ns blk len 0 s).2.2.1.2.2 (sg : Int) (k : Int) w = some (.inl (spFln ns blk len s v (sg * len + k + 1), ((k + 1 : Nat) : Int), g3)) := by
    intro w hw
    unfold M_flips_p115 M_flips_p126
    rw [y1]
    simp only [Option.bind_some]
    rw [hw, h2, pw (x := (k : Int) + 1) (by omega) (by omega)]
    show _ = some (Sum.inl (spFln ns blk len s v (sg * len + k) + (if spFlc ns blk len s (sg * len + k) = v then 1 else 0), ((k + 1 : Nat) : Int), g3))
    by_cases a : spFlc ns blk len s (sg * len + k) = v
    · rw [if_pos a, if_pos a, pw (x := spFln ns blk len s v (sg * len + k) + 1) (by omega) (by omega)]; rfl
    · rw [if_neg a, if_neg a, Int.add_zero]; rfl
  by_cases a : (spCra ns blk len 0 (spFlp sg k s)).2.2.2.2.2.2.2.2.2.1 = true
  · rw [if_pos a, if_pos rfl]
    refine fin 0 ?_
    unfold spFlc
    rw [hdv.1, hdv.2, if_pos a]
  · rw [if_neg a, if_neg (by decide)]
    by_cases a2 : (spCra ns blk len 0 (spFlp sg k s)).2.2.1.2.2 < (spCra ns blk len 0 s).2.2.1.2.2
    · rw [if_pos (by omega)]
      refine fin 1 ?_
      unfold spFlc
      rw [hdv.1, hdv.2, if_neg a, if_pos a2]
    · rw [if_neg (by omega)]
      refine fin 2 ?_
      unfold spFlc
      rw [hdv.1, hdv.2, if_neg a, if_neg a2]
theorem m_flipsL {h g : jH} {o sg : Nat} {v v2 v3 : Int} {s : spSt} (hd : spDim ns blk len) (hs : MS h o ns blk len s.2.2.2.1.2 s) (hI : spInv ns blk len b s) (hsg : sg < ns) (t : RT h g o ns blk len s s) (h3 : v3 = (spCra ns blk len 0 s).2.2.1.2.2) (h2 : v2 = spFln ns blk len s v (sg * len)) : ∃ g', M_flips_L58 g o v v2 v3 (sg : Int) 0 = some (.inl (spFln ns blk len s v ((sg + 1) * len), ((sg + 1 : Nat) : Int), g')) ∧ RTf o g g' ∧ RT h g' o ns blk len s s := by
  have h4 := hd.2.1
  have hl := hd.len
  unfold M_flips_L58
  obtain ⟨⟨u, k, g2⟩, ⟨y1, y2, y3, y4⟩, y5⟩ := jloop_k (f := fun s' : (Int × Int × jH) => M_flips_B58 s'.2.2 o v s'.1 v3 (sg : Int) s'.2.1) (fun k s' => s'.2.1 = (k : Int) ∧ s'.1 = spFln ns blk len s v (sg * len + k) ∧ RTf o g s'.2.2 ∧ RT h s'.2.2 o ns blk len s s) len (fun k s' hk' hp => by
    obtain ⟨x, y, g1⟩ := s'
    obtain ⟨p1, p2, p3, p4⟩ := hp
    dsimp only at p1 p2 p3 p4
    subst p1
    obtain ⟨g', f1, f2, f3⟩ := m_flipsB (v := v) hd hs hI hsg hk' p4 h3 p2
    exact ⟨_, f1, rfl, rfl, p3.tr f2, f3⟩) (k := 0) (s := (v2, (0 : Int), g)) (by omega) ⟨rfl, h2, RTf.rf, t⟩
  dsimp only at y1 y2 y3 y4
  rw [y5]
  subst y1
  refine ⟨g2, jloop_r ?_, y3, y4⟩
  show M_flips_B58 g2 o v u v3 (sg : Int) ((len : Nat) : Int) = _
  unfold M_flips_B58
  rw [m_len y4.2.1.que.2.2.2.2.2.2.2.2.1 hd]
  simp only [Option.bind_some]
  rw [if_neg (by omega), y2, pw (x := (sg : Int) + 1) (by omega) (by omega), show (sg + 1) * len = sg * len + len by rw [Nat.succ_mul]]
  rfl
theorem RM.flips {h : jH} {o : Nat} {v : Int} (hk : spXk ns blk len b X) (r : RM h o ns blk len p X) : ∃ h', M_flips h o v = some (spDFlips ns blk len v X, h') ∧ RMf o h h' ∧ RM h' o ns blk len p X := by
  have hd := hk.dim
  obtain ⟨m, q1, q2, q3, q4, q5, q6⟩ := r.2
  unfold M_flips spDFlips
  rw [if_neg r.told, m_isIn]
  simp only [Option.bind_some]
  by_cases a : 0 ≤ v ∧ v ≤ 2
  rotate_left
  · rw [if_neg a, if_neg a, if_pos rfl]
    exact ⟨h, rfl, RMf.rf, r⟩
  rw [if_pos a, if_pos a, if_neg (by decide)]
  obtain ⟨g, e1, e2, e3, e4, e5⟩ := r.aside
  rw [e1]
  simp only [Option.bind_some]
  obtain ⟨g1, x1, x2, x3, x4⟩ := e5.crash (k := 0) hk.1.1 (Nat.zero_le _)
  rw [show M_crashes g o 0 = _ from x1]
  simp only [Option.bind_some]
  obtain ⟨g2, z1, z2, z3⟩ := x4.anew q6 hk.1.1
  have hl0 : (spCra ns blk len 0 X.1).2.2.1.1.length = 0 := rfl
  rw [if_pos (by decide), z1]
  simp only [Option.bind_some]
  rw [show ((1 : Int)).toNat = 1 from rfl, x4.2.1.que.1, hl0]
  unfold M_flips_L46
  obtain ⟨⟨u, k, g3⟩, ⟨y1, y2, y3, y4⟩, y5⟩ := jloop_k (f := fun s' : (Int × Int × jH) => M_flips_B46 s'.2.2 o v s'.1 ((spCra ns blk len 0 X.1).2.2.1.2.2 + ((0 : Nat) : Int)) s'.2.1) (fun k s' => s'.2.1 = (k : Int) ∧ s'.1 = spFln ns blk len X.1 v (k * len) ∧ RTf o g2 s'.2.2 ∧ RT h s'.2.2 o ns blk len X.1 X.1) ns (fun k s' hk' hp => by
    obtain ⟨x, y, g1⟩ := s'
    obtain ⟨p1, p2, p3, p4⟩ := hp
    dsimp only at p1 p2 p3 p4
    subst p1
    obtain ⟨g', f1, f2, f3⟩ := m_flipsL (v := v) (v3 := (spCra ns blk len 0 X.1).2.2.1.2.2 + ((0 : Nat) : Int)) hd q6 hk.1.1 hk' p4 (by omega) p2
    refine ⟨(spFln ns blk len X.1 v ((k + 1) * len), ((k + 1 : Nat) : Int), g'), ?_, rfl, rfl, p3.tr f2, f3⟩
    show M_flips_B46 g1 o v x _ (k : Int) = _
    unfold M_flips_B46
    rw [m_seg p4.2.1.que.2.2.2.2.2.2.2.2.1]
    simp only [Option.bind_some]
    rw [if_pos (by omega), f1]) (k := 0) (s := ((0 : Int), (0 : Int), g2)) (by omega) ⟨rfl, by rw [Nat.zero_mul]; rfl, RTf.rf, z3⟩
  dsimp only at y1 y2 y3 y4
  rw [y5]
  subst y1
  obtain ⟨g4, w1, w2, w3, w4, w5⟩ := y4.back q6 hk.1.1
  have ez : ∀ z, z ≠ o → z ≠ o + 33 → z ≠ o + 36 → z ≠ o + 37 → g4 z = h z := fun z z1 z2' z3' z4 => by rw [w2 z z1 z2', y3.1 z z1 z2' z4, z2 z z2', x2 z z1 z2' z4, e2 z z1 z3']
  have ef : ∀ f, f ≠ 56 → (f < 59 ∨ 65 < f) → g4 o f = h o f := fun f f1 f2 => by rw [w3 f f1, y3.2 f f2, z2 o (by omega), x3 f f2, e3 f f1]
  refine ⟨g4, jloop_r ?_, ⟨fun z z1 _ z3 _ _ z6 z7 _ _ => ez z z1 z3 z6 z7, fun f _ _ _ _ _ _ _ _ f9 f10 _ _ _ => ef f f9 f10⟩, r.same (fun z hz => ez z (by omega) (by omega) (by omega) (by omega)) (fun f hf => ef f (by omega) (by omega)) (by rw [ef 52 (by decide) (by omega)]; exact r.1.2.1) w4 (by rw [ef 53 (by decide) (by omega)]; exact r.1.2.2.2.1) w5⟩
  show M_flips_B46 g3 o v u _ ((ns : Nat) : Int) = _
  unfold M_flips_B46
  rw [m_seg y4.2.1.que.2.2.2.2.2.2.2.2.1]
  simp only [Option.bind_some]
  rw [if_neg (by omega), w1, y2]
  rfl
end FLM
