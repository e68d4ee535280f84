/-! the reference's tick: laying a group -/
section MTC
variable {ns blk len o : Nat}
def MGf (o : Nat) (h h' : jH) : Prop := (∀ q, q ≠ o → q ≠ o + 33 → q ≠ o + 34 → q ≠ o + 35 → q ≠ o + 67 → h' q = h q) ∧ ∀ f, f ≠ 44 → f ≠ 46 → f ≠ 47 → f ≠ 50 → f ≠ 105 → h' o f = h o f
theorem MGf.rf {h : jH} : MGf o h h := ⟨fun _ _ _ _ _ _ => rfl, fun _ _ _ _ _ _ => rfl⟩
theorem MGf.tr {h h1 h2 : jH} (a : MGf o h h1) (b : MGf o h1 h2) : MGf o h h2 := ⟨fun q x1 x2 x3 x4 x5 => (b.1 q x1 x2 x3 x4 x5).trans (a.1 q x1 x2 x3 x4 x5), fun f x1 x2 x3 x4 x5 => (b.2 f x1 x2 x3 x4 x5).trans (a.2 f x1 x2 x3 x4 x5)⟩
theorem m_p73 {h : jH} {b : Int} {nn : Nat} {kpm : spKp} {s : spSt} {p : spPl} (hp1 : p.1 = ns) (hp2 : p.2.1 = blk) (hp3 : p.2.2.1 = len) (hP : MPl h o p) (hpk : spPok p) (hs : MS h o ns blk len kpm s) (hI : spInv ns blk len b s) (hF : s.2.1.1 = []) (hn1 : 1 ≤ nn) (hn : nn ≤ spWtg s) :
    ∃ h', M_groupCloses_p73 h o (nn : Int) = some h' ∧ MGf o h h' ∧ MS h' o ns blk len kpm (spClo p nn s) := by
  have hs0 := hs
  have hI0 := hI
  have hX := spX0_LI hI hF
  obtain ⟨⟨D, C⟩, ⟨F, lf⟩, ⟨q, fl, first⟩, ⟨wt, kp⟩, ⟨tab, stab, snap, tops⟩, ⟨sg, at', ser, gr, hl, tk⟩⟩ := s
  obtain ⟨i1, i2, i3, i4, i5, i6, i7⟩ := hI
  obtain ⟨c1, ⟨c2, c2'⟩, c3, ⟨c4, c4', c4''⟩, c5, ⟨t1, t2, t3, t4⟩, p1, p2, p3, p4, p5, p6, p7⟩ := hs
  dsimp only at hF
  subst hF
  have hfl : fl = 0 := i2.2.2 rfl
  subst hfl
  have hwt : spWtg ((D, C), (([] : spFl), lf), (q, 0, first), (wt, kp), (tab, stab, snap, tops), (sg, at', ser, gr, hl, tk)) = q.length := rfl
  rw [hwt] at hn
  have hrk : ∀ r ∈ q, spRok r := fun r hr => (i3.1 r hr).1
  have q16 : q.length ≤ 16 := by have := i3.2.2.2.1; omega
  obtain ⟨x, hx⟩ : ∃ x, x = spX0 ((D, C), (([] : spFl), lf), (q, 0, first), (wt, kp), (tab, stab, snap, tops), (sg, at', ser, gr, hl, tk)) := ⟨_, rfl⟩
  have hx11 : x.1.1 = sg := by rw [hx]; rfl
  have hMX : MX (h (o + 33)) x := by rw [hx]; exact ⟨p1, p2, p3, p4, c2, t4⟩
  obtain ⟨g, e1, e2, e3, e4, e5⟩ := m_areLaid (o := o) (tp := tops) (snap := snap) (first := first) (q := q) (nn := nn) (x := x) i1.1 c1 hrk (by have := i3.2.2.2.2; omega) hn c3 hMX (by rw [hx11, hx]; exact hX) t3 p7
  unfold M_groupCloses_p73
  rw [e1]
  simp only [Option.bind_some]
  unfold spClo
  dsimp only
  rw [hp1, hp2, hp3, ← hx]
  cases hA : spAll ns blk len tops snap (q.take nn) first x with
  | none =>
    rw [if_pos rfl, if_pos rfl]
    have e33 : g (o + 33) = h (o + 33) := funext (fun i => e4 hA i)
    exact ⟨g, rfl, ⟨fun z z1 z2 z3 z4 _ => e2 z z1 z2 z3 z4, fun f _ _ _ f50 _ => e3 f f50⟩, hs0.eq (e2 _ (by omega) (by omega) (by omega) (by omega)) e33⟩
  | some y =>
    obtain ⟨y1, y2, y3⟩ := e5 y hA
    rw [if_neg (by simp)]
    have gq : MQu (g (o + 33)) q 0 first := by
      obtain ⟨q1, q2, q3, q4, q5, q6⟩ := c3
      refine ⟨by rw [y3 2 (by decide) (by decide) (by decide) (by decide) (by decide) (by decide) (by decide)]; exact q1, by rw [y3 1 (by decide) (by decide) (by decide) (by decide) (by decide) (by decide) (by decide)]; exact q2, by rw [y3 11 (by decide) (by decide) (by decide) (by decide) (by decide) (by decide) (by decide)]; exact q3, q4, q5, fun i r hr => ?_⟩
      have hm : ((first + i) % 32).toNat < 32 := by omega
      rw [y3 _ (by omega) (by omega) (by omega) (by omega) (by omega) (by omega) (by omega), y3 _ (by omega) (by omega) (by omega) (by omega) (by omega) (by omega) (by omega), y3 _ (by omega) (by omega) (by omega) (by omega) (by omega) (by omega) (by omega), y3 _ (by omega) (by omega) (by omega) (by omega) (by omega) (by omega) (by omega)]
      exact q6 i r hr
    obtain ⟨g1, a1, a2, a3, a4, a5⟩ := m_asks (o := o) (nn := nn) hrk gq (by omega) (by have := i3.2.2.2.2; omega)
    rw [a1]
    simp only [Option.bind_some]
    have g133 : g1 (o + 33) = g (o + 33) := a2 _ (by omega)
    have hP1 : MPl g1 o p := hP.eq (by rw [a2 _ (by omega), e2 _ (by omega) (by omega) (by omega) (by omega)]) (by rw [a2 _ (by omega), e2 _ (by omega) (by omega) (by omega) (by omega)]) (by rw [a2 _ (by omega), e2 _ (by omega) (by omega) (by omega) (by omega)])
    obtain ⟨g2, b1, b2, b3⟩ := m_ticksFor (o := o) (nn := nn) (s := ((D, C), (([] : spFl), lf), (q, 0, first), (wt, kp), (tab, stab, snap, tops), (sg, at', ser, gr, hl, tk))) hP1 hpk (by rw [g133]; exact gq) (by rw [g133, y3 12 (by decide) (by decide) (by decide) (by decide) (by decide) (by decide) (by decide)]; exact c4) (by rw [g133, y3 0 (by decide) (by decide) (by decide) (by decide) (by decide) (by decide) (by decide)]; exact p6) hI0 (by show 0 < q.length; omega) (by omega) a4 a5
    rw [b1]
    simp only [Option.bind_some]
    have g233 : g2 (o + 33) = g (o + 33) := by rw [b2 _ (by omega) (by omega), g133]
    rw [if_pos (by decide), if_pos (by decide), if_pos (by decide)]
    rw [show ((3 : Int)).toNat = 3 from rfl, show ((11 : Int)).toNat = 11 from rfl, ju_ne (by decide), g233, gq.2.2.1, pw (by omega) (by omega)]
    obtain ⟨L, hL⟩ : ∃ L, L = max 1 (min 99 (spTold (spGe ((D, C), (([] : spFl), lf), (q, 0, first), (wt, kp), (tab, stab, snap, tops), (sg, at', ser, gr, hl, tk)) nn) p.2.2.2.2)) := ⟨_, rfl⟩
    rw [← hL]
    obtain ⟨g3, hg3⟩ : ∃ g3 : jH, g3 = jup (jup g2 (o + 33) 3 L) (o + 33) 11 ((q.length : Int) - ((0 : Nat) : Int) - (nn : Int)) := ⟨_, rfl⟩
    rw [← hg3]
    have k1 : ∀ z, z ≠ o + 33 → g3 z = g2 z := fun z hz => by rw [hg3, jup_ne hz, jup_ne hz]
    have k2 : ∀ i, i ≠ 3 → i ≠ 11 → g3 (o + 33) i = g (o + 33) i := fun i i3 i11 => by rw [hg3, ju_ne i11, ju_ne i3, g233]
    have k3 : ∀ i, i ≠ 3 → i ≠ 11 → i ≠ 4 → i ≠ 5 → i ≠ 6 → i ≠ 7 → i ≠ 8 → ¬ (192 ≤ i ∧ i < 196) → (i < 1220 ∨ 2244 ≤ i) → g3 (o + 33) i = h (o + 33) i := fun i x1 x2 x3 x4 x5 x6 x7 x8 x9 => by rw [k2 i x1 x2, y3 i x3 x4 x5 x6 x7 x8 x9]
    obtain ⟨yy1, yy2, yy3, yy4, yy5, yy6⟩ := y1
    refine ⟨g3, rfl, ⟨fun z z1 z2 z3 z4 z5 => by rw [k1 z z2, b2 z z1 z5, a2 z z1, e2 z z1 z2 z3 z4], fun f f1 f2 f3 f4 f5 => by rw [k1 o (by omega), b3 f f1 f5, a3 f f2 f3, e3 f f4]⟩, ?_, ⟨⟨?_, ?_⟩, ?_⟩, ⟨?_, ?_, ?_, c3.2.2.2.1, hn, ?_⟩, ⟨?_, ?_, ?_⟩, ⟨?_, c5.2.1, ?_⟩, ⟨?_, ?_, ?_, ?_⟩, ?_, ?_, ?_, ?_, ?_, ?_, ?_⟩
    · refine c1.fr i1.1 (by rw [k1 _ (by omega), b2 _ (by omega) (by omega), a2 _ (by omega), e2 _ (by omega) (by omega) (by omega) (by omega)]) (fun i _ _ => k3 i (by omega) (by omega) (by omega) (by omega) (by omega) (by omega) (by omega) (by omega) (by omega))
    · rw [k2 4 (by decide) (by decide)]; exact yy5.1
    · intro i e he
      rw [k2 _ (by omega) (by omega), k2 _ (by omega) (by omega)]
      exact yy5.2 i e he
    · rw [hg3, ju_ne (by decide), ju_eq]
    · rw [k3 2 (by decide) (by decide) (by decide) (by decide) (by decide) (by decide) (by decide) (by decide) (by decide)]; exact c3.1
    · rw [k3 1 (by decide) (by decide) (by decide) (by decide) (by decide) (by decide) (by decide) (by decide) (by decide)]; exact c3.2.1
    · rw [hg3, ju_eq]; omega
    · intro i r hr
      have hm : ((first + i) % 32).toNat < 32 := by omega
      rw [k3 _ (by omega) (by omega) (by omega) (by omega) (by omega) (by omega) (by omega) (by omega) (by omega), k3 _ (by omega) (by omega) (by omega) (by omega) (by omega) (by omega) (by omega) (by omega) (by omega), k3 _ (by omega) (by omega) (by omega) (by omega) (by omega) (by omega) (by omega) (by omega) (by omega), k3 _ (by omega) (by omega) (by omega) (by omega) (by omega) (by omega) (by omega) (by omega) (by omega)]
      exact c3.2.2.2.2.2 i r hr
    · rw [k3 12 (by decide) (by decide) (by decide) (by decide) (by decide) (by decide) (by decide) (by decide) (by decide)]; exact c4
    · intro k e he
      have hk := (List.getElem?_eq_some_iff.mp he).1
      have := i4.1
      rw [k3 _ (by omega) (by omega) (by omega) (by omega) (by omega) (by omega) (by omega) (by omega) (by omega)]
      exact c4' k e he
    · intro z hz
      rw [k3 _ (by omega) (by omega) (by omega) (by omega) (by omega) (by omega) (by omega) (by omega) (by omega)]
      exact c4'' z hz
    · rw [k3 _ (by omega) (by omega) (by omega) (by omega) (by omega) (by omega) (by omega) (by omega) (by omega)]; exact c5.1
    · intro k e he
      have hk := (List.getElem?_eq_some_iff.mp he).1
      have := c5.2.1
      rw [k3 _ (by omega) (by omega) (by omega) (by omega) (by omega) (by omega) (by omega) (by omega) (by omega), k3 _ (by omega) (by omega) (by omega) (by omega) (by omega) (by omega) (by omega) (by omega) (by omega), k3 _ (by omega) (by omega) (by omega) (by omega) (by omega) (by omega) (by omega) (by omega) (by omega)]
      exact c5.2.2 k e he
    · intro i hi
      rw [k3 _ (by omega) (by omega) (by omega) (by omega) (by omega) (by omega) (by omega) (by omega) (by omega)]
      exact t1 i hi
    · intro i hi
      rw [k3 _ (by omega) (by omega) (by omega) (by omega) (by omega) (by omega) (by omega) (by omega) (by omega)]
      exact t2 i hi
    · rw [k3 _ (by omega) (by omega) (by omega) (by omega) (by omega) (by omega) (by omega) (by omega) (by omega)]; exact t3
    · intro i hi
      rw [k2 _ (by omega) (by omega)]
      exact yy6 i hi
    · rw [k2 _ (by omega) (by omega)]; exact yy1
    · rw [k2 _ (by omega) (by omega)]; exact yy2
    · rw [k2 _ (by omega) (by omega)]; exact yy3
    · rw [k2 _ (by omega) (by omega)]; exact yy4
    · rw [k3 _ (by omega) (by omega) (by omega) (by omega) (by omega) (by omega) (by omega) (by omega) (by omega)]; exact p5
    · rw [k3 _ (by omega) (by omega) (by omega) (by omega) (by omega) (by omega) (by omega) (by omega) (by omega)]; exact p6
    · rw [k3 _ (by omega) (by omega) (by omega) (by omega) (by omega) (by omega) (by omega) (by omega) (by omega)]; exact p7
theorem m_groupCloses {h : jH} {b : Int} {rule : Nat} {kpm : spKp} {s : spSt} {p : spPl} (hp1 : p.1 = ns) (hp2 : p.2.1 = blk) (hp3 : p.2.2.1 = len) (hP : MPl h o p) (hpk : spPok p) (hs : MS h o ns blk len kpm s) (hI : spInv ns blk len b s) (hF : s.2.1.1 = []) (h52 : h o 52 = if rule = 0 then -1 else (rule : Int)) :
    ∃ h', M_groupCloses h o = some h' ∧ MGf o h h' ∧ MS h' o ns blk len kpm (spFl2 p rule s) := by
  have w11 : ∀ g : jH, MS g o ns blk len kpm s → g (o + 33) 11 = (spWtg s : Int) := by
    intro g hg
    obtain ⟨⟨D, C⟩, ⟨F, lf⟩, ⟨q, fl, first⟩, ⟨wt, kp⟩, ⟨tab, stab, snap, tops⟩, ⟨sg, at', ser, gr, hl, tk⟩⟩ := s
    have c3 := hg.2.2.1
    rw [c3.2.2.1]
    show _ = ((q.length - fl : Nat) : Int)
    have := c3.2.2.2.2.1
    omega
  have w10 : h (o + 33) 10 = if s.2.2.2.2.2.2.2.2.2.1 = true then 1 else 0 := by
    obtain ⟨⟨D, C⟩, ⟨F, lf⟩, ⟨q, fl, first⟩, ⟨wt, kp⟩, ⟨tab, stab, snap, tops⟩, ⟨sg, at', ser, gr, hl, tk⟩⟩ := s
    exact hs.2.2.2.2.2.2.2.2.2.2.1
  unfold M_groupCloses
  rw [if_pos (by decide), show ((11 : Int)).toNat = 11 from rfl, show ((10 : Int)).toNat = 10 from rfl, w11 h hs, w10]
  by_cases a1 : spWtg s = 0
  · rw [if_pos (by omega)]
    refine ⟨h, rfl, MGf.rf, ?_⟩
    unfold spFl2
    rw [if_neg (fun x => by omega)]
    exact hs
  rw [if_neg (by omega), if_pos (by decide)]
  by_cases a2 : s.2.2.2.2.2.2.2.2.2.1 = true
  · rw [if_pos (by rw [if_pos a2])]
    refine ⟨h, rfl, MGf.rf, ?_⟩
    unfold spFl2
    rw [if_neg (fun x => by rw [a2] at x; cases x.2.2.1)]
    exact hs
  have a2' : s.2.2.2.2.2.2.2.2.2.1 = false := by cases hq : s.2.2.2.2.2.2.2.2.2.1 with
    | true => exact absurd hq a2
    | false => rfl
  rw [if_neg (by rw [if_neg a2]; decide), h52]
  by_cases a3 : rule = 0
  · rw [if_pos a3, if_pos rfl]
    obtain ⟨g, e1, e2, e3⟩ := m_doesClose hP hpk hs hI (by omega)
    rw [e1]
    simp only [Option.bind_some]
    have hg : MS g o ns blk len kpm s := hs.eq (e2 _ (by omega) (by omega)) (e2 _ (by omega) (by omega))
    have fg : MGf o h g := ⟨fun z z1 _ _ _ z5 => e2 z z1 z5, fun f f1 f2 f3 _ f5 => e3 f f1 f2 f3 f5⟩
    by_cases a4 : spTold (spGe s (spWtg s)) p.2.2.2.1 = 0
    · rw [if_pos (by rw [if_neg (fun x => x a4)])]
      refine ⟨g, rfl, fg, ?_⟩
      unfold spFl2
      rw [if_neg (fun x => x.2.2.2.elim (fun y => by omega) (fun y => y a4))]
      exact hg
    · rw [if_pos a4, if_neg (by decide)]
      unfold M_groupCloses_p37 M_groupCloses_p59
      rw [e3 52 (by decide) (by decide) (by decide) (by decide), h52, if_pos a3, if_pos rfl, if_pos (by decide), show ((11 : Int)).toNat = 11 from rfl, w11 g hg]
      obtain ⟨h', x1, x2, x3⟩ := m_p73 (h := g) hp1 hp2 hp3 (hP.eq (e2 _ (by omega) (by omega)) (e2 _ (by omega) (by omega)) (e2 _ (by omega) (by omega))) hpk hg hI hF (nn := spWtg s) (by omega) (Nat.le_refl _)
      refine ⟨h', x1, fg.tr x2, ?_⟩
      unfold spFl2
      rw [if_pos ⟨hF, by omega, a2', Or.inr a4⟩, if_neg (by omega)]
      exact x3
  · rw [if_neg a3, if_neg (by omega)]
    unfold M_groupCloses_p37 M_groupCloses_p59
    rw [h52, if_neg a3, if_neg (by omega), if_pos (by decide), show ((11 : Int)).toNat = 11 from rfl, w11 h hs]
    have key : ∃ h', M_groupCloses_p73 h o ((min rule (spWtg s) : Nat) : Int) = some h' ∧ MGf o h h' ∧ MS h' o ns blk len kpm (spClo p (min rule (spWtg s)) s) := m_p73 hp1 hp2 hp3 hP hpk hs hI hF (by omega) (by omega)
    obtain ⟨h', x1, x2, x3⟩ := key
    refine ⟨h', ?_, x2, ?_⟩
    · by_cases a5 : (spWtg s : Int) < (rule : Int)
      · rw [if_pos a5, if_pos (by decide), ← x1]
        congr 1
        omega
      · rw [if_neg a5, ← x1]
        congr 1
        omega
    · unfold spFl2
      rw [if_pos ⟨hF, by omega, a2', Or.inl (by omega)⟩, if_pos (by omega)]
      exact x3
end MTC
