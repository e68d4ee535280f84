/-! a byte's turning tried, one after the other: the spec, the class -/
def spFlc (ns blk len : Nat) (s : spSt) (m : Nat) : Int := if (spCra ns blk len 0 (spFlp (m / len) (m % len) s)).2.2.2.2.2.2.2.2.2.1 = true then 0 else if (spCra ns blk len 0 (spFlp (m / len) (m % len) s)).2.2.1.2.2 < (spCra ns blk len 0 s).2.2.1.2.2 then 1 else 2
def spFln (ns blk len : Nat) (s : spSt) (v : Int) : Nat → Int
  | 0 => 0
  | n + 1 => spFln ns blk len s v n + (if spFlc ns blk len s n = v then 1 else 0)
theorem spFln_in {ns blk len : Nat} {s : spSt} {v : Int} : ∀ n, 0 ≤ spFln ns blk len s v n ∧ spFln ns blk len s v n ≤ (n : Int) := by
  intro n
  induction n with
  | zero => exact ⟨Int.le_refl _, Int.le_refl _⟩
  | succ n ih => unfold spFln; split <;> omega
def spDFlips (ns blk len : Nat) (v : Int) (X : spX) : Int := if 0 ≤ v ∧ v ≤ 2 then spFln ns blk len X.1 v (ns * len) else -1
theorem spCra_0 {ns blk len : Nat} {s : spSt} : (spCra ns blk len 0 s).2.2.1.2.2 = (spRecov s.1.1 ns blk len s.2.2.2.2.1.2.2.1 s.2.2.2.2.1.2.1).1.1 ∧ (spCra ns blk len 0 s).2.2.2.2.2.2.2.2.2.1 = (spRecov s.1.1 ns blk len s.2.2.2.2.1.2.2.1 s.2.2.2.2.1.2.1).2.2.2.2 := by
  obtain ⟨⟨D, C⟩, ⟨F, lf⟩, ⟨q, fl, first⟩, ⟨wt, kp⟩, ⟨tab, stab, snap, tops⟩, ⟨sg, at', ser, gr, hl, tk⟩⟩ := s
  unfold spCra
  dsimp only
  rw [List.take_zero]
  exact ⟨rfl, rfl⟩
theorem spCra_0F {ns blk len s' k : Nat} {s : spSt} : (spCra ns blk len 0 (spFlp s' k s)).2.2.1.2.2 = (spRecov (up2 s.1.1 s' k (255 - s.1.1 s' k)) ns blk len s.2.2.2.2.1.2.2.1 s.2.2.2.2.1.2.1).1.1 ∧ (spCra ns blk len 0 (spFlp s' k s)).2.2.2.2.2.2.2.2.2.1 = (spRecov (up2 s.1.1 s' k (255 - s.1.1 s' k)) ns blk len s.2.2.2.2.1.2.2.1 s.2.2.2.2.1.2.1).2.2.2.2 := by
  have h := spCra_0 (ns := ns) (blk := blk) (len := len) (s := spFlp s' k s)
  obtain ⟨⟨D, C⟩, r⟩ := s
  exact h
theorem up2_back {D : Nat → Nat → Int} {s k : Nat} {c : Int} : up2 (up2 D s k (c - D s k)) s k (c - up2 D s k (c - D s k) s k) = D := by
  funext a b
  unfold up2
  rw [if_pos (show s = s ∧ k = k from ⟨rfl, rfl⟩)]
  by_cases e : a = s ∧ b = k
  · rw [if_pos e, e.1, e.2]; omega
  · rw [if_neg e, if_neg e]
theorem spByD_flp {ns len s k : Nat} {D : Nat → Nat → Int} (hs : s < ns) (hk : k < len) (hy : spByD ns len D) : spByD ns len (up2 D s k (255 - D s k)) := by
  intro s' hs' k' hk'
  unfold up2
  have := hy s hs k hk
  split
  · omega
  · exact hy s' hs' k' hk'
theorem spC1_flp {ns len s k : Nat} {C : Nat → Nat → Int} (hs : s < ns) (hk : k < len) (hC : ∀ s k, s < ns → k < len → 0 ≤ C s k ∧ C s k ≤ 1) : ∀ s' k', s' < ns → k' < len → 0 ≤ up2 C s k (1 - C s k) s' k' ∧ up2 C s k (1 - C s k) s' k' ≤ 1 := by
  intro s' k' hs' hk'
  unfold up2
  have := hC s k hs hk
  split
  · omega
  · exact hC s' k' hs' hk'
theorem sp_dm {ns len m : Nat} (hm : m < ns * len) : m / len < ns ∧ m % len < len ∧ m / len * len + m % len = m := by
  have h0 : 0 < len := by
    rcases Nat.eq_zero_or_pos len with e | e
    · rw [e] at hm; omega
    · exact e
  exact ⟨(Nat.div_lt_iff_lt_mul h0).mpr hm, Nat.mod_lt _ h0, Nat.div_add_mod' m len⟩
section FLC
variable {T : jT} {ns blk len : Nat} {b : Int} {p : spPl} {X : spX}
theorem c_flipsB {g : jH} {o0 m : Nat} {v v4 : Int} {s : spSt} {D C : Nat → Nat → Int} (hd : spDim ns blk len) (hy : spByD ns len D) (hC : ∀ s k, s < ns → k < len → 0 ≤ C s k ∧ C s k ≤ 1) (eD : s.1.1 = D) (hm : m < ns * len) (hc : CD g (o0 + 57) ns blk len D C) (hsn : g (o0 + 35) 7 = s.2.2.2.2.1.2.2.1) (hst : ∀ q, q < 16 → g (o0 + 54) q = s.2.2.2.2.1.2.1 q) (hs0 : 0 ≤ s.2.2.2.2.1.2.2.1) (hs1 : s.2.2.2.2.1.2.2.1 ≤ 700000) (e4 : v4 = spFln ns blk len s v m) :
    ∃ g', G_flips_B79 T g o0 v (spCra ns blk len 0 s).2.2.1.2.2 (o0 + 57) v4 (m : Int) = some (.inl (spFln ns blk len s v (m + 1), ((m + 1 : Nat) : Int), g')) ∧ (∀ z, z ≠ o0 + 58 → z ≠ o0 + 59 → (z < o0 + 79 ∨ o0 + 82 < z) → g' z = g z) ∧ CD g' (o0 + 57) ns blk len D C := by
  obtain ⟨d1, d2, d3⟩ := sp_dm hm
  have hl := hd.adr d1 d2
  have hc0 := hc
  obtain ⟨c1, c2, c3, c4, c5, c6⟩ := hc
  unfold G_flips_B79 Di_total
  simp only [Option.bind_some]
  rw [c1, c2]
  have hmul : (ns : Int) * (len : Int) = ((ns * len : Nat) : Int) := by rw [Int.natCast_mul]
  rw [hmul, pw (x := ((ns * len : Nat) : Int)) (by omega) (by omega), if_pos (show (m : Int) < ((ns * len : Nat) : Int) by omega)]
  obtain ⟨g1, x1, x2, x3⟩ := c_turn hd d1 d2 hy hC hc0
  rw [d3] at x1
  rw [x1]
  simp only [Option.bind_some]
  rw [x2 (o0 + 35) (by omega) (by omega), hsn]
  obtain ⟨g2, y1, y2, y3⟩ := c_read (rc := o0 + 79) (od := o0 + 57) (r3 := o0 + 54) hd x3 (spByD_flp d1 d2 hy) (by unfold nin; omega) (by omega) (stab := s.2.2.2.2.1.2.1) (fun j hj => by rw [x2 _ (by omega) (by omega)]; exact hst j hj) hs0 (by omega)
  rw [y1]
  simp only [Option.bind_some]
  have hc2 : CD g2 (o0 + 57) ns blk len (up2 D (m / len) (m % len) (255 - D (m / len) (m % len))) (up2 C (m / len) (m % len) (1 - C (m / len) (m % len))) := by
    unfold CD
    rw [y2 _ (by omega), y2 _ (by omega), y2 _ (by omega)]
    exact x3
  obtain ⟨g3, z1, z2, z3⟩ := c_turn hd d1 d2 (spByD_flp d1 d2 hy) (spC1_flp d1 d2 hC) hc2
  rw [d3] at z1
  rw [z1]
  simp only [Option.bind_some]
  rw [up2_back, up2_back] at z3
  obtain ⟨⟨w1, _, _⟩, _, _, _, w7⟩ := y3
  have hf := spCra_0F (ns := ns) (blk := blk) (len := len) (s' := m / len) (k := m % len) (s := s)
  rw [eD] at hf
  rw [z2 (o0 + 79) (by omega) (by omega), w1, w7, ← hf.1, ← hf.2]
  refine ⟨g3, ?_, fun z h1 h2 h3 => by rw [z2 z (by omega) (by omega), y2 z (by omega), x2 z (by omega) (by omega)], z3⟩
  have hi := spFln_in (ns := ns) (blk := blk) (len := len) (s := s) (v := v) m
  have fin : ∀ w : Int, w = spFlc ns blk len s m → G_flips_p152 T g3 o0 v (spCra ns blk len 0 s).2.2.1.2.2 (o0 + 57) v4 (m : Int) w = some (.inl (spFln ns blk len s v (m + 1), ((m + 1 : Nat) : Int), g3)) := by
    intro w hw
    unfold G_flips_p152 G_flips_p167
    rw [hw, e4, pw (x := (m : Int) + 1) (by omega) (by omega)]
    show _ = some (Sum.inl (spFln ns blk len s v m + (if spFlc ns blk len s m = v then 1 else 0), ((m + 1 : Nat) : Int), g3))
    by_cases a : spFlc ns blk len s m = v
    · rw [if_pos a, if_pos a, pw (by omega) (by omega)]; rfl
    · rw [if_neg a, if_neg a, pw (by omega) (by omega)]; rfl
  by_cases a : (spCra ns blk len 0 (spFlp (m / len) (m % len) s)).2.2.2.2.2.2.2.2.2.1 = true
  · rw [if_pos a, if_neg (by decide)]
    refine fin 0 ?_
    unfold spFlc
    rw [if_pos a]
  · rw [if_neg a, if_pos rfl]
    by_cases a2 : (spCra ns blk len 0 (spFlp (m / len) (m % len) s)).2.2.1.2.2 < (spCra ns blk len 0 s).2.2.1.2.2
    · rw [if_pos a2]
      refine fin 1 ?_
      unfold spFlc
      rw [if_neg a, if_pos a2]
    · rw [if_neg a2]
      refine fin 2 ?_
      unfold spFlc
      rw [if_neg a, if_neg a2]
theorem RC.flips {h : jH} {o0 pl B : Nat} {v : Int} (hk : spXk ns blk len b X) (r : RC T h o0 pl ns blk len p B X) : ∃ h', G_flips T h o0 v = some (spDFlips ns blk len v X, h') ∧ RCf o0 pl h h' ∧ RC T h' o0 pl ns blk len p B X := by
  have hd := hk.dim
  have r0 := r
  obtain ⟨⟨r1, r2, r3, r4, r5, r6, r7⟩, c, n, q1, q2, q3, q4, q5, q6, q7⟩ := r
  unfold G_flips spDFlips
  rw [r0.told hd]
  simp only [Option.bind_some]
  rw [if_neg (by decide)]
  by_cases a1 : v < 0
  · rw [if_pos a1, if_neg (by omega)]; exact ⟨h, rfl, RCf.rf, r0⟩
  rw [if_neg a1]
  by_cases a2 : 2 < v
  · rw [if_pos a2, if_neg (by omega)]; exact ⟨h, rfl, RCf.rf, r0⟩
  rw [if_neg a2, if_pos (show 0 ≤ v ∧ v ≤ 2 by omega)]
  have hI := hk.1.1
  clear hk
  generalize X.1 = s at hI q5 q6 ⊢
  have q5' := q5
  have hI' := hI
  obtain ⟨⟨D, C⟩, ⟨F, lf⟩, ⟨q, fl, first⟩, ⟨wt, kp⟩, ⟨tab, stab, snap, tops⟩, ⟨sg, at', ser, gr, hl, tk⟩⟩ := s
  obtain ⟨i1, i2, i3, i4, i5, i6, i7⟩ := hI
  obtain ⟨c1, ⟨c2, c2'⟩, c3, ⟨c4, c4'⟩, ⟨t1, t2, t3, t4⟩, p1, p2, p3, p4, p5, p6⟩ := q5
  rw [show h (o0 + 35) 7 = snap from t3]
  obtain ⟨g0, x1, x2, x3⟩ := c_read (rc := o0 + 79) (od := o0 + 36) (r3 := o0 + 54) (snap := snap) (stab := stab) i1.1 c1 i1.2.1 (by unfold nin; omega) (by omega) t2 (by omega) (by omega)
  rw [x1]
  simp only [Option.bind_some]
  have c1' : CD g0 (o0 + 36) ns blk len D C := by
    unfold CD
    rw [x2 _ (by omega), x2 _ (by omega), x2 _ (by omega)]
    exact c1
  obtain ⟨g1, e1, e2, e3⟩ := c_copyD (a := o0 + 57) (c := o0 + 36) (by omega) hd c1'
  rw [e1]
  simp only [Option.bind_some]
  have h0 := spCra_0 (ns := ns) (blk := blk) (len := len) (s := (((D, C), (F, lf), (q, fl, first), (wt, kp), (tab, stab, snap, tops), (sg, at', ser, gr, hl, tk)) : spSt))
  rw [x3.1.1, show (spRecov D ns blk len snap stab).1.1 = (spCra ns blk len 0 (((D, C), (F, lf), (q, fl, first), (wt, kp), (tab, stab, snap, tops), (sg, at', ser, gr, hl, tk)) : spSt)).2.2.1.2.2 from h0.1.symm]
  have gs : ∀ z, z ≠ o0 + 57 → z ≠ o0 + 58 → z ≠ o0 + 59 → (z < o0 + 79 ∨ o0 + 82 < z) → g1 z = h z := fun z z1 z2 z3 z4 => by rw [e2 z z1 z2 z3, x2 z z4]
  obtain ⟨s, hs⟩ : ∃ s : spSt, s = ((D, C), (F, lf), (q, fl, first), (wt, kp), (tab, stab, snap, tops), (sg, at', ser, gr, hl, tk)) := ⟨_, rfl⟩
  rw [← hs]
  unfold G_flips_L79
  obtain ⟨⟨u, k, g2⟩, ⟨y1, y2, y3, y4⟩, y5⟩ := jloop_k (f := fun s' : (Int × Int × jH) => G_flips_B79 T s'.2.2 o0 v (spCra ns blk len 0 s).2.2.1.2.2 (o0 + 57) s'.1 s'.2.1) (fun k s' => s'.2.1 = (k : Int) ∧ s'.1 = spFln ns blk len s v k ∧ CD s'.2.2 (o0 + 57) ns blk len D C ∧ ∀ z, z ≠ o0 + 57 → z ≠ o0 + 58 → z ≠ o0 + 59 → (z < o0 + 79 ∨ o0 + 82 < z) → s'.2.2 z = h z) (ns * len) (fun k s' hk' hp => by
    obtain ⟨x, y, g⟩ := s'
    obtain ⟨p1, p2, p3, p4⟩ := hp
    dsimp only at p1 p2 p3 p4
    subst p1
    obtain ⟨g', f1, f2, f3⟩ := c_flipsB (T := T) (v := v) (v4 := x) (s := s) hd i1.2.1 i1.2.2 (by rw [hs]) hk' p3 (by rw [p4 _ (by omega) (by omega) (by omega) (by omega), hs]; exact t3) (fun j hj => by rw [p4 _ (by omega) (by omega) (by omega) (by omega), hs]; exact t2 j hj) (by rw [hs]; show 0 ≤ snap; omega) (by rw [hs]; show snap ≤ 700000; omega) p2
    exact ⟨_, f1, rfl, rfl, f3, fun z z1 z2 z3 z4 => (f2 z z2 z3 z4).trans (p4 z z1 z2 z3 z4)⟩) (k := 0) (s := ((0 : Int), (0 : Int), g1)) (by omega) ⟨rfl, rfl, e3, gs⟩
  dsimp only at y1 y2 y3 y4
  rw [y5]
  subst y1
  refine ⟨g2, jloop_r ?_, ⟨fun z _ _ z3 z4 => y4 z (by omega) (by omega) (by omega) (by omega), fun f _ _ => by rw [y4 o0 (by omega) (by omega) (by omega) (by omega)]⟩, r0.same (fun z z1 z2 => y4 z (by omega) (by omega) (by omega) (by omega)) (CPl.eq r6 (fun z z1 z2 => y4 z (by omega) (by omega) (by omega) (by omega)))⟩
  show G_flips_B79 T g2 o0 v _ (o0 + 57) u ((ns * len : Nat) : Int) = _
  have hb := (hd.adr (s := 0) (k := 0) (by have := hd.1; omega) (by have := hd.len; omega)).2
  unfold G_flips_B79 Di_total
  simp only [Option.bind_some]
  rw [y3.1, y3.2.1, show (ns : Int) * (len : Int) = ((ns * len : Nat) : Int) by rw [Int.natCast_mul], pw (x := ((ns * len : Nat) : Int)) (by omega) (by omega), if_neg (by omega), y2]
  rfl
end FLC
