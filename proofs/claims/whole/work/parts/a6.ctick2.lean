/-! the class's tick, whole -/
def spAlC (c : Int) : Bool := decide (40 ≤ c) && decide (c ≤ 44)
def spAlT (c : Int) : Bool := decide (40 ≤ c) && decide (c ≤ 42)
def spPok (p : spPl) : Prop := spTys spAlC p.2.2.2.1 [] = some [true] ∧ spTys spAlT p.2.2.2.2 [] = some [false]
def CPl (h : jH) (pl : Nat) (p : spPl) : Prop := CFm h (pl + 1) p.2.2.2.1 ∧ CFm h (pl + 5) p.2.2.2.2
theorem spGe_ok {ns blk len : Nat} {b : Int} {s : spSt} {n : Nat} (hI : spInv ns blk len b s) (hn : n ≤ 16) (hw : s.2.2.1.2.1 < s.2.2.1.1.length) : spEok (spGe s n) := by
  obtain ⟨⟨D, C⟩, ⟨F, lf⟩, ⟨q, fl, first⟩, ⟨wt, kp⟩, ⟨tab, stab, snap, tops⟩, ⟨sg, at', ser, gr, hl, tk⟩⟩ := s
  obtain ⟨i1, i2, i3, i4, i5, i6, i7⟩ := hI
  dsimp only at hw
  have hp := spPay1_in ((q.drop fl).take n) (fun r hr => (i3.1 r (List.mem_of_mem_drop (List.mem_of_mem_take hr))).1)
  have hl : ((q.drop fl).take n).length ≤ n := by rw [List.length_take]; omega
  have hb : 0 ≤ ((q.drop fl).headD (0, 0, 0, 0)).2.2.2 ∧ ((q.drop fl).headD (0, 0, 0, 0)).2.2.2 ≤ 999 := by
    rw [List.drop_eq_getElem_cons hw]
    exact (i3.1 _ (List.getElem_mem hw)).2
  refine ⟨fun k => ?_, fun x => ⟨by show (-1000000 : Int) ≤ 0; decide, by show (0 : Int) ≤ 1000000; decide⟩, fun x => ⟨by show (-1000000 : Int) ≤ 0; decide, by show (0 : Int) ≤ 1000000; decide⟩⟩
  unfold spGe
  dsimp only
  split
  · omega
  · split
    · omega
    · split
      · omega
      · split
        · omega
        · split <;> omega
section CT2
variable {ns blk len : Nat} {T : jT}
theorem c_tell {h : jH} {fo k : Nat} {v : Int} (hk : k < 160) : Fo_tell h fo (k : Int) v = some (jup h (fo + 2) k v) := by
  unfold Fo_tell
  rw [g_putN hk]
  rfl
theorem c_tellG {h : jH} {o fo nn fl : Nat} {first tk : Int} {q : List spRec} (hfo : fo + 3 < o ∨ o + 20 < fo) (hrk : ∀ r ∈ q, spRok r) (hq : CQ h (o + 7) q fl first) (hn : fl + nn ≤ q.length) (h9 : h o 9 = tk) (hnn : nn ≤ 1000) : St_tellGroup h o fo (nn : Int) = some (jup (jup (jup h (fo + 2) 0 tk) (fo + 2) 1 (nn : Int)) (fo + 2) 2 (spPay1 ((q.drop fl).take nn))) := by
  unfold St_tellGroup
  rw [show (0 : Int) = ((0 : Nat) : Int) from rfl, c_tell (by decide), h9]
  simp only [Option.bind_some]
  rw [show (1 : Int) = ((1 : Nat) : Int) from rfl, c_tell (by decide)]
  simp only [Option.bind_some]
  have hq2 : CQ (jup (jup h (fo + 2) 0 tk) (fo + 2) 1 (nn : Int)) (o + 7) q fl first := hq.of (fun z z1 z2 => by rw [jup_ne (by omega), jup_ne (by omega)])
  have := c_payOfL hrk hn nn 0 _ 0 (by omega) hq2 (by omega) (by omega)
  unfold Qu_payloadOf
  rw [show (0 : Int) = ((0 : Nat) : Int) from rfl, show (((0 : Nat) : Int)) = 0 from rfl]
  rw [show Qu_payloadOf_L4 (jup (jup h (fo + 2) 0 tk) (fo + 2) 1 (nn : Int)) (o + 7) (nn : Int) 0 0 = _ from this]
  simp only [Option.bind_some]
  rw [show (2 : Int) = ((2 : Nat) : Int) from rfl, c_tell (by decide), Nat.add_zero, Int.zero_add]
  rfl
/-- whether the test holds -/
theorem c_test {h : jH} {o pl n : Nat} {b : Int} {s : spSt} {p : spPl} (hpl : pl + 8 < o ∨ o + 20 < pl) (hT : isX6 T pl) (h0 : h o 0 = (pl : Int)) (hP : CPl h pl p) (hpk : spPok p) (hs : CS h o ns blk len n s) (hI : spInv ns blk len b s) (hw : 0 < spWtg s) :
    ∃ h', St_testHolds T h o = some (if spTold (spGe s (spWtg s)) p.2.2.2.1 ≠ 0 then 1 else 0, h') ∧ (∀ z, z ≠ pl + 1 → z ≠ pl + 3 → z ≠ pl + 4 → h' z = h z) ∧ CPl h' pl p := by
  obtain ⟨⟨D, C⟩, ⟨F, lf⟩, ⟨q, fl, first⟩, ⟨wt, kp⟩, ⟨tab, stab, snap, tops⟩, ⟨sg, at', ser, gr, hl, tk⟩⟩ := s
  have hI0 := hI
  have hs0 := hs
  obtain ⟨i1, i2, i3, i4, i5, i6, i7⟩ := hI
  obtain ⟨c1, ⟨c2, c2'⟩, c3, ⟨c4, c4'⟩, ⟨t1, t2, t3, t4⟩, p1, p2, p3, p4, p5, p6⟩ := hs
  have hwt : spWtg ((D, C), (F, lf), (q, fl, first), (wt, kp), (tab, stab, snap, tops), (sg, at', ser, gr, hl, tk)) = q.length - fl := rfl
  rw [hwt] at hw ⊢
  have hlt : fl < q.length := by omega
  unfold St_testHolds Qu_waitingCount Qu_firstBorn
  rw [h0, jdyn_at hT]
  simp only [Option.bind_some]
  rw [c3.2.1, c3.2.2.1, pw (by omega) (by omega), show (q.length : Int) - (fl : Int) = ((q.length - fl : Nat) : Int) by omega]
  rw [c_tellG (fo := pl + 1) (by omega) (fun r hr => (i3.1 r hr).1) c3 (by omega) p6 (by omega)]
  simp only [Option.bind_some]
  obtain ⟨g, hg⟩ : ∃ g : jH, g = jup (jup (jup h (pl + 1 + 2) 0 tk) (pl + 1 + 2) 1 ((q.length - fl : Nat) : Int)) (pl + 1 + 2) 2 (spPay1 ((q.drop fl).take (q.length - fl))) := ⟨_, rfl⟩
  rw [← hg]
  have go : ∀ z, z ≠ pl + 3 → g z = h z := fun z hz => by rw [hg, jup_ne (by omega), jup_ne (by omega), jup_ne (by omega)]
  have hborn : h (o + 11) fl = (q[fl]).2.2.2 := (c3.2.2.2.2 fl _ (List.getElem?_eq_getElem hlt)).2.2.2
  rw [go (o + 7) (by omega), c3.2.1]
  rw [show o + 7 + 4 = o + 11 by omega, g_cellN (by omega), go (o + 11) (by omega), hborn]
  simp only [Option.bind_some]
  have hbr := (i3.1 _ (List.getElem_mem hlt)).2
  rw [go o (by omega), p6, pw (by omega) (by omega), show (3 : Int) = ((3 : Nat) : Int) from rfl, c_tell (by decide)]
  simp only [Option.bind_some]
  rw [jup_ne (show o + 12 ≠ pl + 1 + 2 by omega), go (o + 12) (by omega), c4.1, show (4 : Int) = ((4 : Nat) : Int) from rfl, c_tell (by decide)]
  simp only [Option.bind_some]
  obtain ⟨g2, hg2⟩ : ∃ g2 : jH, g2 = jup (jup g (pl + 1 + 2) 3 (tk - (q[fl]).2.2.2)) (pl + 1 + 2) 4 (wt.length : Int) := ⟨_, rfl⟩
  rw [← hg2]
  have go2 : ∀ z, z ≠ pl + 3 → g2 z = h z := fun z hz => by rw [hg2, jup_ne (by omega), jup_ne (by omega), go z hz]
  have hm : CFm g2 (pl + 1) p.2.2.2.1 := by
    unfold CFm
    rw [go2 _ (by omega), go2 _ (by omega)]
    exact hP.1
  have hf : CFa (g2 (pl + 1 + 2)) spAlC (spGe ((D, C), (F, lf), (q, fl, first), (wt, kp), (tab, stab, snap, tops), (sg, at', ser, gr, hl, tk)) (q.length - fl)) := by
    refine ⟨fun k hk hal => ?_, fun h => (by cases h), fun h => (by cases h)⟩
    unfold spAlC at hal
    simp at hal
    have hk5 : k = 0 ∨ k = 1 ∨ k = 2 ∨ k = 3 ∨ k = 4 := by omega
    have hhd : ((q.drop fl).headD (0, 0, 0, 0)) = q[fl] := by rw [List.drop_eq_getElem_cons hlt]; rfl
    rcases hk5 with e | e | e | e | e <;> subst e <;> rw [hg2, hg] <;> unfold spGe <;> simp only [ju_if] <;> simp [List.getElem?_eq_getElem hlt]
  obtain ⟨h', e1, e2, e3⟩ := c_eval (spGe_ok (n := q.length - fl) hI0 (by omega) hlt) hm hf hpk.1
  rw [e1]
  simp only [Option.bind_some]
  have hCP : CPl h' pl p := by
    refine ⟨?_, ?_⟩
    · unfold CFm
      rw [e2.2 1 (by decide), e2.1 (pl + 1 + 1) (by omega) (by omega)]
      exact hm
    · unfold CFm
      rw [e2.1 (pl + 5) (by omega) (by omega), e2.1 (pl + 5 + 1) (by omega) (by omega), go2 _ (by omega), go2 _ (by omega)]
      exact hP.2
  have ho : ∀ z, z ≠ pl + 1 → z ≠ pl + 3 → z ≠ pl + 4 → h' z = h z := fun z z1 z2 z3 => by rw [e2.1 z z1 (by omega), go2 z z2]
  by_cases a : spTold (spGe ((D, C), (F, lf), (q, fl, first), (wt, kp), (tab, stab, snap, tops), (sg, at', ser, gr, hl, tk)) (q.length - fl)) p.2.2.2.1 = 0
  · rw [if_pos a, if_neg (by simp [a])]
    exact ⟨h', rfl, ho, hCP⟩
  · rw [if_neg a, if_pos a]
    exact ⟨h', rfl, ho, hCP⟩
theorem spX0_LI {b : Int} {s : spSt} (hI : spInv ns blk len b s) (hF : s.2.1.1 = []) : spLI ns len s.2.2.2.2.1.2.2.2 s.2.2.2.2.1.2.2.1 s.2.2.2.2.2.1 (spX0 s) := by
  obtain ⟨⟨D, C⟩, ⟨F, lf⟩, ⟨q, fl, first⟩, ⟨wt, kp⟩, ⟨tab, stab, snap, tops⟩, ⟨sg, at', ser, gr, hl, tk⟩⟩ := s
  obtain ⟨i1, i2, i3, i4, i5, i6, i7⟩ := hI
  dsimp only at hF
  subst hF
  refine ⟨i6.1, i6.2.1, by show decide (sg = sg) = true; simp, fun i _ _ => rfl, ⟨fun _ => 0, fun _ => Nat.zero_le _, Nat.zero_le _, fun _ _ _ _ => rfl, Nat.zero_le _, fun i h => absurd rfl h⟩, fun e he => (by cases he), fun i _ hv => Or.inl ?_, i6.2.2.1, i6.2.2.2.1⟩
  have : decide (i = sg) = true := hv
  simpa using this
/-- a group closes -/
theorem c_close {h : jH} {o pn pl n nn : Nat} {b : Int} {s : spSt} {p : spPl} (hp1 : p.1 = ns) (hp2 : p.2.1 = blk) (hp3 : p.2.2.1 = len) (hpl : pl + 8 < o ∨ o + 20 < pl) (hpn : pn < o ∨ o + 20 < pn) (hpp : pn < pl ∨ pl + 8 < pn) (hT : isX6 T pl) (h0 : h o 0 = (pl : Int)) (hP : CPl h pl p) (hpk : spPok p) (hs : CS h o ns blk len n s) (hI : spInv ns blk len b s) (hF : s.2.1.1 = []) (hn1 : 1 ≤ nn) (hn : nn ≤ spWtg s) :
    ∃ h', St_close T h o pn (nn : Int) = some h' ∧ (∀ z, (z < o ∨ o + 20 < z) → z ≠ pn → (z < pl + 5 ∨ pl + 8 < z) → h' z = h z) ∧ CPl h' pl p ∧ CS h' o ns blk len n (spClo p nn s) ∧ h' o 0 = (pl : Int) := by
  have hI0 := hI
  have hs0 := hs
  have hX := spX0_LI hI hF
  obtain ⟨⟨D, C⟩, ⟨F, lf⟩, ⟨q, fl, first⟩, ⟨wt, kp⟩, ⟨tab, stab, snap, tops⟩, ⟨sg, at', ser, gr, hl, tk⟩⟩ := s
  obtain ⟨i1, i2, i3, i4, i5, i6, i7⟩ := hI
  obtain ⟨c1, ⟨c2, c2'⟩, c3, ⟨c4, c4'⟩, ⟨t1, t2, t3, t4⟩, p1, p2, p3, p4, p5, p6⟩ := hs
  dsimp only at hF
  subst hF
  have hfl : fl = 0 := i2.2.2 rfl
  subst hfl
  have hwt : spWtg ((D, C), (([] : spFl), lf), (q, 0, first), (wt, kp), (tab, stab, snap, tops), (sg, at', ser, gr, hl, tk)) = q.length := rfl
  rw [hwt] at hn
  have hsg : sg < 4 := by have := i1.1.2.1; omega
  have hrk : ∀ r ∈ q, spRok r := fun r hr => (i3.1 r hr).1
  unfold St_close Pe_hasRoom
  obtain ⟨g0, e1, e2, e3⟩ := c_start (h := h) (o := o) (pn := pn) hsg hpn p1 p2 p3 p4
  rw [e1]
  simp only [Option.bind_some]
  have c1g : CD g0 (o + 1) ns blk len D C := c1.eq (fun z z1 z2 => e2 z (by omega))
  have hr0 := c_roomL (tp := tops) (snap := snap) (first := first) (q := q) (nn := nn) (st := sg) i1.1 hpn hrk hn c3.2.2.2.1 nn 0 g0 _ (by omega) c1g e3 (c3.of (fun z z1 z2 => e2 z (by omega))) (by rw [e2 o (by omega)]; exact t3) (fun j hj => by rw [e2 _ (by omega)]; exact t4 j hj) hX
  rw [List.drop_zero, show first + ((0 : Nat) : Int) = first by omega] at hr0
  obtain ⟨g1, f1, f2⟩ := hr0
  rw [show Pe_hasRoom_L7 g0 pn o (nn : Int) 0 = _ from f1]
  simp only [Option.bind_some]
  have g1o : ∀ z, z ≠ pn → g1 z = h z := fun z hz => by rw [f2 z hz, e2 z hz]
  have hPg : ∀ g : jH, (∀ z, (z = pl + 1 ∨ z = pl + 2 ∨ z = pl + 5 ∨ z = pl + 6) → g z = h z) → CPl g pl p := by
    intro g hg
    refine ⟨?_, ?_⟩
    · unfold CFm; rw [hg _ (by omega), hg _ (by omega)]; exact hP.1
    · unfold CFm; rw [hg _ (by omega), hg _ (by omega)]; exact hP.2
  unfold spClo
  dsimp only [hp1, hp2, hp3]
  rw [hp1, hp2, hp3]
  cases hA : spAll ns blk len tops snap (q.take nn) first (spX0 ((D, C), (([] : spFl), lf), (q, 0, first), (wt, kp), (tab, stab, snap, tops), (sg, at', ser, gr, hl, tk))) with
  | none =>
    rw [if_pos rfl, if_pos rfl]
    exact ⟨g1, rfl, fun z z1 z2 _ => g1o z z2, hPg g1 (fun z hz => g1o z (by omega)), hs0.eq (fun z z1 z2 => g1o z (by omega)), by rw [g1o o (by omega)]; exact h0⟩
  | some y =>
    rw [if_neg (by simp), g1o o (by omega), h0, jdyn_at hT]
    simp only [Option.bind_some]
    rw [c_tellG (fo := pl + 5) (tk := tk) (by omega) hrk (c3.of (fun z z1 z2 => g1o z (by omega))) (by omega) (by rw [g1o o (by omega)]; exact p6) (by omega)]
    simp only [Option.bind_some]
    obtain ⟨g2, hg2⟩ : ∃ g2 : jH, g2 = jup (jup (jup g1 (pl + 5 + 2) 0 tk) (pl + 5 + 2) 1 (nn : Int)) (pl + 5 + 2) 2 (spPay1 ((q.drop 0).take nn)) := ⟨_, rfl⟩
    rw [← hg2]
    have g2o : ∀ z, z ≠ pn → z ≠ pl + 7 → g2 z = h z := fun z z1 z2 => by rw [hg2, jup_ne (by omega), jup_ne (by omega), jup_ne (by omega), g1o z z1]
    rw [g2o o (by omega) (by omega), h0, jdyn_at hT]
    simp only [Option.bind_some]
    have hm : CFm g2 (pl + 5) p.2.2.2.2 := by
      unfold CFm
      rw [g2o _ (by omega) (by omega), g2o _ (by omega) (by omega)]
      exact hP.2
    have hf : CFa (g2 (pl + 5 + 2)) spAlT (spGe ((D, C), (([] : spFl), lf), (q, 0, first), (wt, kp), (tab, stab, snap, tops), (sg, at', ser, gr, hl, tk)) nn) := by
      refine ⟨fun k hk hal => ?_, fun h => (by cases h), fun h => (by cases h)⟩
      unfold spAlT at hal
      simp at hal
      have hk5 : k = 0 ∨ k = 1 ∨ k = 2 := by omega
      rcases hk5 with e | e | e <;> subst e <;> rw [hg2] <;> unfold spGe <;> simp [ju_if]
    obtain ⟨g3, w1, w2, w3⟩ := c_eval (spGe_ok (n := nn) hI0 (by omega) (by show 0 < q.length; omega)) hm hf hpk.2
    rw [w1]
    simp only [Option.bind_some]
    have g3o : ∀ z, z ≠ pn → (z < pl + 5 ∨ pl + 8 < z) → g3 z = h z := fun z z1 z2 => by rw [w2.1 z (by omega) (by omega), g2o z z1 (by omega)]
    unfold Pe_lay
    obtain ⟨g4, x1, x2, x3⟩ := c_start (h := g3) (o := o) (pn := pn) (s := sg) (k := at') (ser := ser) (gr := gr) hsg hpn (by rw [g3o o (by omega) (by omega)]; exact p1) (by rw [g3o o (by omega) (by omega)]; exact p2) (by rw [g3o o (by omega) (by omega)]; exact p3) (by rw [g3o o (by omega) (by omega)]; exact p4)
    rw [x1]
    simp only [Option.bind_some]
    have g4o : ∀ z, z ≠ pn → (z < pl + 5 ∨ pl + 8 < z) → g4 z = h z := fun z z1 z2 => by rw [x2 z z1, g3o z z1 z2]
    have hx4 : CX g4 o pn len (spX0 ((D, C), (([] : spFl), lf), (q, 0, first), (wt, kp), (tab, stab, snap, tops), (sg, at', ser, gr, hl, tk))) := by
      refine ⟨x3, ?_, fun i hi => by rw [g4o _ (by omega) (by omega)]; exact t4 i hi⟩
      unfold CF
      rw [g4o _ (by omega) (by omega), g4o _ (by omega) (by omega), g4o _ (by omega) (by omega)]
      exact c2
    have hlay := c_layL (tp := tops) (snap := snap) (first := first) (q := q) (nn := nn) (st := sg) i1.1 hpn hrk (by omega) hn nn 0 g4 _ y (by omega) (c1.eq (fun z z1 z2 => g4o z (by omega) (by omega))) hx4 (c3.of (fun z z1 z2 => g4o z (by omega) (by omega))) (by rw [g4o o (by omega) (by omega)]; exact t3) hX (by rw [List.drop_zero, show first + ((0 : Nat) : Int) = first by omega]; exact hA)
    obtain ⟨g5, y1, y2, y3, y4⟩ := hlay
    rw [show Pe_lay_L7 g4 pn o (nn : Int) 0 = _ from y1]
    unfold St_movePlace
    simp only [Option.bind_some]
    have g5o : ∀ z, z ≠ pn → (z < pl + 5 ∨ pl + 8 < z) → (z < o + 4 ∨ o + 6 < z) → z ≠ o + 20 → g5 z = h z := fun z z1 z2 z3 z4 => by rw [y2.1 z z1 z3 z4, g4o z z1 z2]
    obtain ⟨g6, hg6⟩ : ∃ g6 : jH, g6 = jup g5 (o + 7) 5 (nn : Int) := ⟨_, rfl⟩
    rw [← hg6, show g6 pn = g5 pn by rw [hg6, jup_ne (by omega)]]
    obtain ⟨⟨yp1, yp2, yp3, yp4, yp5⟩, yF, yT⟩ := y3
    rw [yp1, yp2, yp3, yp4]
    obtain ⟨g7, hg7⟩ : ∃ g7 : jH, g7 = jup (jup (jup (jup (jup g6 o 10 (y.1.1 : Int)) o 11 (y.1.2.1 : Int)) o 12 y.1.2.2.1) o 13 y.1.2.2.2.1) (o + 4) 3 (max 1 (min 99 (spTold (spGe ((D, C), (([] : spFl), lf), (q, 0, first), (wt, kp), (tab, stab, snap, tops), (sg, at', ser, gr, hl, tk)) nn) p.2.2.2.2))) := ⟨_, rfl⟩
    rw [← hg7]
    have g7o : ∀ z, z ≠ pn → (z < pl + 5 ∨ pl + 8 < z) → (z < o + 4 ∨ o + 7 < z) → z ≠ o + 20 → z ≠ o → g7 z = h z := fun z z1 z2 z3 z4 z5 => by rw [hg7, jup_ne (by omega), jup_ne z5, jup_ne z5, jup_ne z5, jup_ne z5, hg6, jup_ne (by omega), g5o z z1 z2 (by omega) z4]
    have g7f : ∀ f, f ≠ 10 → f ≠ 11 → f ≠ 12 → f ≠ 13 → g7 o f = h o f := fun f f0 f1 f2 f3 => by rw [hg7, jup_ne (by omega), ju_ne f3, ju_ne f2, ju_ne f1, ju_ne f0, hg6, jup_ne (by omega), g5o o (by omega) (by omega) (by omega) (by omega)]
    refine ⟨g7, rfl, fun z z1 z2 z3 => g7o z z2 z3 (by omega) (by omega) (by omega), ?_, ⟨?_, ⟨?_, ?_⟩, ?_, ⟨?_, ?_⟩, ⟨?_, ?_, ?_, ?_⟩, ?_, ?_, ?_, ?_, ?_, ?_⟩, by rw [g7f 0 (by decide) (by decide) (by decide) (by decide)]; exact h0⟩
    · refine ⟨?_, ?_⟩
      · unfold CFm; rw [g7o _ (by omega) (by omega) (by omega) (by omega) (by omega), g7o _ (by omega) (by omega) (by omega) (by omega) (by omega)]; exact hP.1
      · have : ∀ z, (z = pl + 5 ∨ z = pl + 6) → g7 z = g3 z := fun z hz => by rw [hg7, jup_ne (by omega), jup_ne (by omega), jup_ne (by omega), jup_ne (by omega), jup_ne (by omega), hg6, jup_ne (by omega), y2.1 z (by omega) (by omega) (by omega), x2 z (by omega)]
        unfold CFm
        rw [this _ (by omega), this _ (by omega), w2.2 1 (by decide), w2.1 (pl + 5 + 1) (by omega) (by omega)]
        exact hm
    · exact c1.eq (fun z z1 z2 => g7o z (by omega) (by omega) (by omega) (by omega) (by omega))
    · unfold CF at yF ⊢
      rw [show g7 (o + 4) 2 = g5 (o + 4) 2 by rw [hg7, ju_ne (by decide), jup_ne (by omega), jup_ne (by omega), jup_ne (by omega), jup_ne (by omega), hg6, jup_ne (by omega)], show g7 (o + 4 + 1) = g5 (o + 4 + 1) by rw [hg7, jup_ne (by omega), jup_ne (by omega), jup_ne (by omega), jup_ne (by omega), jup_ne (by omega), hg6, jup_ne (by omega)], show g7 (o + 4 + 2) = g5 (o + 4 + 2) by rw [hg7, jup_ne (by omega), jup_ne (by omega), jup_ne (by omega), jup_ne (by omega), jup_ne (by omega), hg6, jup_ne (by omega)]]
      exact yF
    · rw [hg7, ju_eq]
    · have q7 : ∀ f, f ≠ 5 → g7 (o + 7) f = h (o + 7) f := fun f hf => by rw [hg7, jup_ne (by omega), jup_ne (by omega), jup_ne (by omega), jup_ne (by omega), jup_ne (by omega), hg6, ju_ne hf, g5o _ (by omega) (by omega) (by omega) (by omega)]
      refine ⟨by rw [q7 4 (by decide)]; exact c3.1, ?_, by rw [q7 6 (by decide)]; exact c3.2.2.1, c3.2.2.2.1, fun i r hr => ?_⟩
      · rw [hg7, jup_ne (by omega), jup_ne (by omega), jup_ne (by omega), jup_ne (by omega), jup_ne (by omega), hg6, ju_eq]
      · rw [g7o _ (by omega) (by omega) (by omega) (by omega) (by omega), g7o _ (by omega) (by omega) (by omega) (by omega) (by omega), g7o _ (by omega) (by omega) (by omega) (by omega) (by omega), g7o _ (by omega) (by omega) (by omega) (by omega) (by omega)]
        exact c3.2.2.2.2 i r hr
    · unfold CW CWa
      rw [g7o _ (by omega) (by omega) (by omega) (by omega) (by omega), g7o _ (by omega) (by omega) (by omega) (by omega) (by omega), g7o _ (by omega) (by omega) (by omega) (by omega) (by omega)]
      exact c4
    · unfold CKn
      rw [g7o _ (by omega) (by omega) (by omega) (by omega) (by omega), g7o _ (by omega) (by omega) (by omega) (by omega) (by omega), g7o _ (by omega) (by omega) (by omega) (by omega) (by omega), g7o _ (by omega) (by omega) (by omega) (by omega) (by omega)]
      exact c4'
    · intro i hi; rw [g7o _ (by omega) (by omega) (by omega) (by omega) (by omega)]; exact t1 i hi
    · intro i hi; rw [g7o _ (by omega) (by omega) (by omega) (by omega) (by omega)]; exact t2 i hi
    · rw [g7f 7 (by decide) (by decide) (by decide) (by decide)]; exact t3
    · intro i hi
      rw [hg7, jup_ne (by omega), jup_ne (by omega), jup_ne (by omega), jup_ne (by omega), jup_ne (by omega), hg6, jup_ne (by omega)]
      exact yT i hi
    · rw [hg7, jup_ne (by omega), ju_ne (by decide), ju_ne (by decide), ju_ne (by decide), ju_eq]
    · rw [hg7, jup_ne (by omega), ju_ne (by decide), ju_ne (by decide), ju_eq]
    · rw [hg7, jup_ne (by omega), ju_ne (by decide), ju_eq]
    · rw [hg7, jup_ne (by omega), ju_eq]
    · rw [g7f 14 (by decide) (by decide) (by decide) (by decide)]; exact p5
    · rw [g7f 9 (by decide) (by decide) (by decide) (by decide)]; exact p6
end CT2
