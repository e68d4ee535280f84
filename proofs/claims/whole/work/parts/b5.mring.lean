/-! the reference keeps, undoes, puts aside, takes back -/
section MRI
variable {o ns blk len : Nat}
/-- the heap with another row for now -/
def jrw (h : jH) (o : Nat) (w : Nat → Int) : jH := fun q => if q = o + 33 then w else h q
theorem jrw_at {h : jH} {w : Nat → Int} : jrw h o w (o + 33) = w := by unfold jrw; rw [if_pos rfl]
theorem jrw_ne {h : jH} {w : Nat → Int} {q : Nat} (hq : q ≠ o + 33) : jrw h o w q = h q := by unfold jrw; rw [if_neg hq]
/-- a state in a row -/
def MSr (h : jH) (o ns blk len : Nat) (kpm : spKp) (w : Nat → Int) (s : spSt) : Prop := MS (jrw h o w) o ns blk len kpm s
theorem MSr.is {h h' : jH} {w : Nat → Int} {kpm : spKp} {s : spSt} (a : MSr h o ns blk len kpm w s) (e1 : h' (o + 28) = h (o + 28)) (e2 : h' (o + 33) = w) : MS h' o ns blk len kpm s := MS.eq (h := jrw h o w) a (by rw [e1, jrw_ne (by omega)]) (by rw [e2, jrw_at])
theorem MSr.of {h h' : jH} {w : Nat → Int} {kpm : spKp} {s : spSt} (a : MS h o ns blk len kpm s) (e1 : h' (o + 28) = h (o + 28)) (e2 : w = h (o + 33)) : MSr h' o ns blk len kpm w s := MS.eq a (by rw [jrw_ne (by omega), e1]) (by rw [jrw_at, e2])
/-- only the first so many cells of a row speak -/
theorem MS.cong {h h' : jH} {kpm : spKp} {s : spSt} {b : Int} (hI : spInv ns blk len b s) (hs : MS h o ns blk len kpm s) (e1 : h' (o + 28) = h (o + 28)) (e2 : ∀ i, i < 2365 → h' (o + 33) i = h (o + 33) i) : MS h' o ns blk len kpm s := by
  have hF := spInv_F hI
  obtain ⟨⟨D, C⟩, ⟨F, lf⟩, ⟨q, fl, first⟩, ⟨wt, kp⟩, ⟨tab, stab, snap, tops⟩, ⟨sg, at', ser, gr, hl, tk⟩⟩ := s
  obtain ⟨i1, i2, i3, i4, i5, i6, i7⟩ := hI
  obtain ⟨c1, ⟨c2, c2'⟩, c3, ⟨c4, c4', c4''⟩, c5, ⟨t1, t2, t3, t4⟩, p1, p2, p3, p4, p5, p6, p7⟩ := hs
  dsimp only at hF
  have k := e2
  refine ⟨c1.fr i1.1 e1 (fun i _ _ => k i (by omega)), ⟨⟨by rw [k _ (by decide)]; exact c2.1, fun i e he => ?_⟩, by rw [k _ (by decide)]; exact c2'⟩, ⟨by rw [k _ (by decide)]; exact c3.1, by rw [k _ (by decide)]; exact c3.2.1, by rw [k _ (by decide)]; exact c3.2.2.1, c3.2.2.2.1, c3.2.2.2.2.1, fun i r hr => ?_⟩, ⟨by rw [k _ (by decide)]; exact c4, fun i e he => ?_, fun x hx => by rw [k _ (by omega)]; exact c4'' x hx⟩, ⟨by rw [k _ (by decide)]; exact c5.1, c5.2.1, fun i e he => ?_⟩, ⟨fun i hi => by rw [k _ (by omega)]; exact t1 i hi, fun i hi => by rw [k _ (by omega)]; exact t2 i hi, by rw [k _ (by decide)]; exact t3, fun i hi => by rw [k _ (by omega)]; exact t4 i hi⟩, by rw [k _ (by decide)]; exact p1, by rw [k _ (by decide)]; exact p2, by rw [k _ (by decide)]; exact p3, by rw [k _ (by decide)]; exact p4, by rw [k _ (by decide)]; exact p5, by rw [k _ (by decide)]; exact p6, by rw [k _ (by decide)]; exact p7⟩
  · have hi := (List.getElem?_eq_some_iff.mp he).1
    rw [k _ (by omega), k _ (by omega)]; exact c2.2 i e he
  · rw [k _ (by omega), k _ (by omega), k _ (by omega), k _ (by omega)]; exact c3.2.2.2.2.2 i r hr
  · have hi := (List.getElem?_eq_some_iff.mp he).1
    have := i4.1
    rw [k _ (by omega)]; exact c4' i e he
  · have hi := (List.getElem?_eq_some_iff.mp he).1
    have := c5.2.1
    rw [k _ (by omega), k _ (by omega), k _ (by omega)]; exact c5.2.2 i e he
/-- a row of the ring -/
def MRow (h : jH) (o sl : Nat) : Nat → Int := fun v => h (o + 42) (2365 * sl + v)
theorem m_keeps {h : jH} {cur n : Nat} (h74 : h o 74 = (cur : Int)) (hc : cur < 20) (h73 : h o 73 = (n : Int)) (hn : n ≤ 20) : ∃ h', M_keeps h o = some h' ∧ (∀ z, z ≠ o → z ≠ o + 42 → h' z = h z) ∧ (∀ f, f ≠ 73 → f ≠ 74 → h' o f = h o f) ∧ h' o 74 = (((cur + 1) % 20 : Nat) : Int) ∧ h' o 73 = ((min (n + 1) 20 : Nat) : Int) ∧ (∀ i, i < 2365 → MRow h' o ((cur + 1) % 20) i = h (o + 33) i) ∧ ∀ sl, sl < 20 → sl ≠ (cur + 1) % 20 → ∀ i, i < 2365 → MRow h' o sl i = MRow h o sl i := by
  have hm : (cur + 1) % 20 < 20 := Nat.mod_lt _ (by decide)
  have e74 : Int.tmod (wr (h o 74 + 1)) 20 = (((cur + 1) % 20 : Nat) : Int) := by
    rw [h74, pw (by omega) (by omega), Int.tmod_eq_emod_of_nonneg (by omega)]
    rfl
  unfold M_keeps M_keeps_L15
  rw [e74]
  generalize (cur + 1) % 20 = sl at hm
  obtain ⟨⟨k, h1⟩, ⟨e1, e2, e3, e4⟩, e5⟩ := jloop_k (f := fun s : (Int × jH) => M_keeps_B15 s.2 o s.1) (fun k s => s.1 = (k : Int) ∧ (∀ q, q ≠ o → q ≠ o + 42 → s.2 q = h q) ∧ (∀ f, s.2 o f = (jup h o 74 (sl : Int)) o f) ∧ ∀ f, s.2 (o + 42) f = if 2365 * sl ≤ f ∧ f < 2365 * sl + k then h (o + 33) (f - 2365 * sl) else h (o + 42) f) 2365 (fun k s hk hp => by
    obtain ⟨z, g⟩ := s
    obtain ⟨p1, p2, p3, p4⟩ := hp
    dsimp only at p1 p2 p3 p4
    subst p1
    refine ⟨(((k + 1 : Nat) : Int), jup g (o + 42) (2365 * sl + k) (h (o + 33) k)), ?_, rfl, fun q q1 q2 => (jup_ne q2).trans (p2 q q1 q2), fun f => by dsimp only; rw [jup_ne (by omega)]; exact p3 f, fun f => ?_⟩
    · show M_keeps_B15 g o (k : Int) = _
      unfold M_keeps_B15
      rw [if_pos (by omega), if_pos (by omega), p3 74, ju_eq, pw (x := 2365 * (sl : Int)) (by omega) (by omega), pw (x := 2365 * (sl : Int) + (k : Int)) (by omega) (by omega), if_pos (by omega), show (2365 * (sl : Int) + (k : Int)).toNat = 2365 * sl + k by omega, Int.toNat_natCast, p2 (o + 33) (by omega) (by omega), pw (x := (k : Int) + 1) (by omega) (by omega)]
      rfl
    · dsimp only
      rw [ju_if]
      by_cases a : f = 2365 * sl + k
      · rw [if_pos a, if_pos (by omega), a]; congr 1; omega
      · rw [if_neg a, p4 f]
        by_cases b : 2365 * sl ≤ f ∧ f < 2365 * sl + k
        · rw [if_pos b, if_pos (by omega)]
        · rw [if_neg b, if_neg (by omega)]) (k := 0) (s := ((0 : Int), jup h o 74 (sl : Int))) (by decide) ⟨rfl, fun q q1 q2 => jup_ne q1, fun f => rfl, fun f => by dsimp only; rw [if_neg (by omega), jup_ne (by omega)]⟩
  dsimp only at e1 e2 e3 e4
  rw [e5]
  subst e1
  have hB : M_keeps_B15 h1 o ((2365 : Nat) : Int) = some (.inr (if n < 20 then jup h1 o 73 ((n + 1 : Nat) : Int) else h1)) := by
    unfold M_keeps_B15
    rw [if_neg (by decide), e3 73, ju_ne (by decide), h73, pw (by omega) (by omega)]
    by_cases a : n < 20
    · rw [if_pos (by omega), if_pos a]; rfl
    · rw [if_neg (by omega), if_neg a]; rfl
  refine ⟨_, jloop_r hB, ?_⟩
  obtain ⟨g, hg⟩ : ∃ g : jH, g = (if n < 20 then jup h1 o 73 ((n + 1 : Nat) : Int) else h1) := ⟨_, rfl⟩
  rw [← hg]
  have go : ∀ z, z ≠ o → g z = h1 z := fun z hz => by rw [hg]; split; exact jup_ne hz; rfl
  have gf : ∀ f, f ≠ 73 → g o f = h1 o f := fun f hf => by rw [hg]; split; exact ju_ne hf; rfl
  have row : ∀ s i, MRow g o s i = if 2365 * sl ≤ 2365 * s + i ∧ 2365 * s + i < 2365 * sl + 2365 then h (o + 33) (2365 * s + i - 2365 * sl) else h (o + 42) (2365 * s + i) := fun s i => by unfold MRow; rw [go _ (by omega)]; exact e4 _
  refine ⟨fun z z1 z2 => by rw [go z z1, e2 z z1 z2], fun f f1 f2 => by rw [gf f f1, e3 f, ju_ne f2], by rw [gf 74 (by decide), e3, ju_eq], ?_, fun i hi => ?_, fun s hs hne i hi => ?_⟩
  · rw [hg]
    by_cases a : n < 20
    · rw [if_pos a, ju_eq, show min (n + 1) 20 = n + 1 by omega]
    · rw [if_neg a, e3 73, ju_ne (by decide), h73]; omega
  · rw [row, if_pos (by omega), show 2365 * sl + i - 2365 * sl = i by omega]
  · rw [row, if_neg (by omega)]; rfl
theorem m_undo {h : jH} {cur n : Nat} (h74 : h o 74 = (cur : Int)) (hc : cur < 20) (h73 : h o 73 = ((n + 1 : Nat) : Int)) (hn : n < 20) : ∃ h', M_undo h o = some (1, h') ∧ (∀ z, z ≠ o → z ≠ o + 33 → h' z = h z) ∧ (∀ f, f ≠ 73 → f ≠ 74 → h' o f = h o f) ∧ h' o 74 = (((cur + 19) % 20 : Nat) : Int) ∧ h' o 73 = (n : Int) ∧ ∀ i, i < 2365 → h' (o + 33) i = MRow h o cur i := by
  unfold M_undo M_undo_L21
  rw [h73, if_neg (by omega)]
  obtain ⟨⟨k, h1⟩, ⟨e1, e2, e3⟩, e4⟩ := jloop_k (f := fun s : (Int × jH) => M_undo_B21 s.2 o s.1) (fun k s => s.1 = (k : Int) ∧ (∀ q, q ≠ o + 33 → s.2 q = h q) ∧ ∀ f, f < k → s.2 (o + 33) f = MRow h o cur f) 2365 (fun k s hk hp => by
    obtain ⟨z, g⟩ := s
    obtain ⟨p1, p2, p3⟩ := hp
    dsimp only at p1 p2 p3
    subst p1
    refine ⟨(((k + 1 : Nat) : Int), jup g (o + 33) k (MRow h o cur k)), ?_, rfl, fun q q1 => (jup_ne q1).trans (p2 q q1), fun f hf => ?_⟩
    · show M_undo_B21 g o (k : Int) = _
      unfold M_undo_B21
      rw [if_pos (by omega), p2 o (by omega), h74, pw (x := 2365 * (cur : Int)) (by omega) (by omega), pw (x := 2365 * (cur : Int) + (k : Int)) (by omega) (by omega), if_pos (by omega), if_pos (by omega), show (2365 * (cur : Int) + (k : Int)).toNat = 2365 * cur + k by omega, Int.toNat_natCast, p2 (o + 42) (by omega), pw (x := (k : Int) + 1) (by omega) (by omega)]
      rfl
    · dsimp only
      rw [ju_if]
      by_cases a : f = k
      · rw [if_pos a, a]
      · rw [if_neg a]; exact p3 f (by omega)) (k := 0) (s := ((0 : Int), h)) (by decide) ⟨rfl, fun _ _ => rfl, fun f hf => by omega⟩
  dsimp only at e1 e2 e3
  rw [e4]
  subst e1
  refine ⟨jup (jup h1 o 74 (((cur + 19) % 20 : Nat) : Int)) o 73 (n : Int), jloop_r ?_, fun z z1 z2 => by rw [jup_ne z1, jup_ne z1, e2 z z2], fun f f1 f2 => by rw [ju_ne f1, ju_ne f2, e2 o (by omega)], by rw [ju_ne (by decide), ju_eq], ju_eq, fun i hi => by rw [jup_ne (by omega), jup_ne (by omega)]; exact e3 i hi⟩
  show M_undo_B21 h1 o ((2365 : Nat) : Int) = _
  unfold M_undo_B21
  rw [if_neg (by decide), ju_ne (by decide), e2 o (by omega), h74, h73, pw (x := (cur : Int) + 20) (by omega) (by omega), pw (x := (cur : Int) + 20 - 1) (by omega) (by omega), pw (by omega) (by omega), Int.tmod_eq_emod_of_nonneg (by omega)]
  have e5 : ((cur : Int) + 20 - 1) % 20 = (((cur + 19) % 20 : Nat) : Int) := by omega
  rw [e5, show ((n + 1 : Nat) : Int) - 1 = (n : Int) by omega]
  rfl
theorem m_aside {h : jH} : ∃ h', M_putsAside h o = some h' ∧ (∀ z, z ≠ o → z ≠ o + 36 → h' z = h z) ∧ (∀ f, f ≠ 56 → h' o f = h o f) ∧ h' o 56 = 1 ∧ ∀ i, i < 2244 → h' (o + 36) i = h (o + 33) i := by
  unfold M_putsAside M_putsAside_L7
  obtain ⟨⟨k, h1⟩, ⟨e1, e2, e3⟩, e4⟩ := jloop_k (f := fun s : (Int × jH) => M_putsAside_B7 s.2 o s.1) (fun k s => s.1 = (k : Int) ∧ (∀ q, q ≠ o + 36 → s.2 q = (jup h o 56 1) q) ∧ ∀ f, f < k → s.2 (o + 36) f = h (o + 33) f) 2244 (fun k s hk hp => by
    obtain ⟨z, g⟩ := s
    obtain ⟨p1, p2, p3⟩ := hp
    dsimp only at p1 p2 p3
    subst p1
    refine ⟨(((k + 1 : Nat) : Int), jup g (o + 36) k (h (o + 33) k)), ?_, rfl, fun q q1 => (jup_ne q1).trans (p2 q q1), fun f hf => ?_⟩
    · show M_putsAside_B7 g o (k : Int) = _
      unfold M_putsAside_B7
      rw [if_pos (by omega), if_pos (by omega), if_pos (by omega), Int.toNat_natCast, p2 (o + 33) (by omega), jup_ne (show o + 33 ≠ o by omega), pw (x := (k : Int) + 1) (by omega) (by omega)]
      rfl
    · dsimp only
      rw [ju_if]
      by_cases a : f = k
      · rw [if_pos a, a]
      · rw [if_neg a]; exact p3 f (by omega)) (k := 0) (s := ((0 : Int), jup h o 56 1)) (by decide) ⟨rfl, fun _ _ => rfl, fun f hf => by omega⟩
  dsimp only at e1 e2 e3
  rw [e4]
  subst e1
  refine ⟨h1, jloop_r ?_, fun z z1 z2 => by rw [e2 z z2, jup_ne z1], fun f hf => by rw [e2 o (by omega), ju_ne hf], by rw [e2 o (by omega), ju_eq], e3⟩
  show M_putsAside_B7 h1 o ((2244 : Nat) : Int) = _
  unfold M_putsAside_B7
  rw [if_neg (by decide)]
  rfl
theorem m_anew {h : jH} : ∃ h', M_triesAnew h o = some h' ∧ (∀ z, z ≠ o + 33 → h' z = h z) ∧ ∀ i, h' (o + 33) i = if i < 2244 then h (o + 36) i else h (o + 33) i := by
  unfold M_triesAnew M_triesAnew_L2
  obtain ⟨⟨k, h1⟩, ⟨e1, e2, e3⟩, e4⟩ := jloop_k (f := fun s : (Int × jH) => M_triesAnew_B2 s.2 o s.1) (fun k s => s.1 = (k : Int) ∧ (∀ q, q ≠ o + 33 → s.2 q = h q) ∧ ∀ f, s.2 (o + 33) f = if f < k then h (o + 36) f else h (o + 33) f) 2244 (fun k s hk hp => by
    obtain ⟨z, g⟩ := s
    obtain ⟨p1, p2, p3⟩ := hp
    dsimp only at p1 p2 p3
    subst p1
    refine ⟨(((k + 1 : Nat) : Int), jup g (o + 33) k (h (o + 36) k)), ?_, rfl, fun q q1 => (jup_ne q1).trans (p2 q q1), fun f => ?_⟩
    · show M_triesAnew_B2 g o (k : Int) = _
      unfold M_triesAnew_B2
      rw [if_pos (by omega), if_pos (by omega), if_pos (by omega), Int.toNat_natCast, p2 (o + 36) (by omega), pw (x := (k : Int) + 1) (by omega) (by omega)]
      rfl
    · dsimp only
      rw [ju_if, p3 f]
      by_cases a : f = k
      · rw [if_pos a, if_pos (by omega), a]
      · by_cases b : f < k
        · rw [if_neg a, if_pos b, if_pos (by omega)]
        · rw [if_neg a, if_neg b, if_neg (by omega)]) (k := 0) (s := ((0 : Int), h)) (by decide) ⟨rfl, fun _ _ => rfl, fun f => by rw [if_neg (by omega)]⟩
  dsimp only at e1 e2 e3
  rw [e4]
  subst e1
  refine ⟨h1, jloop_r ?_, fun z z1 => e2 z z1, e3⟩
  show M_triesAnew_B2 h1 o ((2244 : Nat) : Int) = _
  unfold M_triesAnew_B2
  rw [if_neg (by decide)]
  rfl
end MRI
