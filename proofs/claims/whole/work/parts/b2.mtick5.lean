/-! the reference's tick, whole -/
def spAcks (s : spSt) : Nat := if s.2.1.1 = [] then 0 else if s.2.1.2 - 1 ≤ 0 then s.2.2.1.2.1 else 0
section MTW
variable {ns blk len o : Nat}
theorem m_p151 {h : jH} {kpm : spKp} {s : spSt} (hd : spDim ns blk len) (hs : MS h o ns blk len kpm s) (ht : 0 ≤ s.2.2.2.2.2.2.2.2.2.2) (ht2 : s.2.2.2.2.2.2.2.2.2.2 ≤ 999) (hw8 : s.2.2.2.1.1.length ≤ 8) : ∃ h', M_tickGoes_p151 h o = some h' ∧ (∀ z, z ≠ o + 33 → h' z = h z) ∧ MS h' o ns blk len kpm (spFl3 s) := by
  obtain ⟨⟨D, C⟩, ⟨F, lf⟩, ⟨q, fl, first⟩, ⟨wt, kp⟩, ⟨tab, stab, snap, tops⟩, ⟨sg, at', ser, gr, hl, tk⟩⟩ := s
  obtain ⟨c1, ⟨c2, c2'⟩, c3, ⟨c4, c4', c4''⟩, c5, ⟨t1, t2, t3, t4⟩, p1, p2, p3, p4, p5, p6, p7⟩ := hs
  dsimp only at ht ht2 hw8
  unfold M_tickGoes_p151
  rw [if_pos (by decide), if_pos (by decide), show ((0 : Int)).toNat = 0 from rfl, p6, pw (by omega) (by omega)]
  obtain ⟨g, hg⟩ : ∃ g : jH, g = jup h (o + 33) 0 (tk + 1) := ⟨_, rfl⟩
  rw [← hg]
  have go : ∀ z, z ≠ o + 33 → g z = h z := fun z hz => by rw [hg, jup_ne hz]
  have k : ∀ i, i ≠ 0 → g (o + 33) i = h (o + 33) i := fun i hi => by rw [hg, ju_ne hi]
  refine ⟨g, rfl, go, c1.fr hd (go _ (by omega)) (fun i _ _ => k i (by omega)), ⟨⟨by rw [k _ (by decide)]; exact c2.1, fun i e he => ?_⟩, by rw [k _ (by decide)]; exact c2'⟩, ⟨by rw [k _ (by decide)]; exact c3.1, by rw [k _ (by decide)]; exact c3.2.1, by rw [k _ (by decide)]; exact c3.2.2.1, c3.2.2.2.1, c3.2.2.2.2.1, fun i r hr => ?_⟩, ⟨by rw [k _ (by decide)]; exact c4, fun i e he => by rw [k _ (by omega)]; exact c4' i e he, fun x hx => by rw [k _ (by omega)]; exact c4'' x hx⟩, ⟨by rw [k _ (by decide)]; exact c5.1, c5.2.1, fun i e he => by rw [k _ (by omega), k _ (by omega), k _ (by omega)]; exact c5.2.2 i e he⟩, ⟨fun i hi => by rw [k _ (by omega)]; exact t1 i hi, fun i hi => by rw [k _ (by omega)]; exact t2 i hi, by rw [k _ (by decide)]; exact t3, fun i hi => by rw [k _ (by omega)]; exact t4 i hi⟩, by rw [k _ (by decide)]; exact p1, by rw [k _ (by decide)]; exact p2, by rw [k _ (by decide)]; exact p3, by rw [k _ (by decide)]; exact p4, by rw [k _ (by decide)]; exact p5, by rw [hg, ju_eq], by rw [k _ (by decide)]; exact p7⟩
  · rw [k _ (by omega), k _ (by omega)]; exact c2.2 i e he
  · rw [k _ (by omega), k _ (by omega), k _ (by omega), k _ (by omega)]; exact c3.2.2.2.2.2 i r hr
theorem m_p138 {h : jH} {b : Int} {rule : Nat} {kpm : spKp} {s : spSt} {p : spPl} (hp1 : p.1 = ns) (hp2 : p.2.1 = blk) (hp3 : p.2.2.1 = len) (hP : MPl h o p) (hpk : spPok p) (hs : MS h o ns blk len kpm s) (hI : spInv ns blk len b s) (h52 : h o 52 = if rule = 0 then -1 else (rule : Int)) (ht : s.2.2.2.2.2.2.2.2.2.2 ≤ 998) :
    ∃ h', M_tickGoes_p138 h o = some h' ∧ MGf o h h' ∧ MS h' o ns blk len kpm (spFl3 (spFl2 p rule s)) := by
  have w4 : h (o + 33) 4 = (s.2.1.1.length : Int) := by
    obtain ⟨⟨D, C⟩, ⟨F, lf⟩, ⟨q, fl, first⟩, ⟨wt, kp⟩, ⟨tab, stab, snap, tops⟩, ⟨sg, at', ser, gr, hl, tk⟩⟩ := s
    exact hs.2.1.1.1
  have hi : ∀ s1, spInv ns blk len b s1 → 0 ≤ s1.2.2.2.2.2.2.2.2.2.2 ∧ s1.2.2.2.2.2.2.2.2.2.2 ≤ 999 ∧ s1.2.2.2.1.1.length ≤ 8 ∧ spDim ns blk len := by
    intro s1 hI1
    obtain ⟨⟨D, C⟩, ⟨F, lf⟩, ⟨q, fl, first⟩, ⟨wt, kp⟩, ⟨tab, stab, snap, tops⟩, ⟨sg, at', ser, gr, hl, tk⟩⟩ := s1
    obtain ⟨i1, i2, i3, i4, i5, i6, i7⟩ := hI1
    exact ⟨i6.2.2.2.2.1, i6.2.2.2.2.2, i4.1, i1.1⟩
  have fin : ∀ (g : jH) (s1 : spSt), spInv ns blk len b s1 → MS g o ns blk len kpm s1 → MGf o h g → ∃ h', M_tickGoes_p151 g o = some h' ∧ MGf o h h' ∧ MS h' o ns blk len kpm (spFl3 s1) := by
    intro g s1 hI1 hg hf
    have h1 := hi s1 hI1
    obtain ⟨h', e1, e2, e3⟩ := m_p151 h1.2.2.2 hg h1.1 h1.2.1 h1.2.2.1
    exact ⟨h', e1, hf.tr ⟨fun z _ z2 _ _ _ => e2 z z2, fun f _ _ _ _ _ => by rw [e2 o (by omega)]⟩, e3⟩
  unfold M_tickGoes_p138
  rw [if_pos (by decide), show ((4 : Int)).toNat = 4 from rfl, w4]
  by_cases a : s.2.1.1 = []
  · rw [if_pos (by rw [a]; rfl)]
    obtain ⟨g, e1, e2, e3⟩ := m_groupCloses hp1 hp2 hp3 hP hpk hs hI a h52
    rw [e1]
    simp only [Option.bind_some]
    exact fin g _ (spInv_fl2 hp1 hp2 hp3 hI) e3 e2
  · have : s.2.1.1.length ≠ 0 := fun h => a (List.length_eq_zero_iff.mp h)
    rw [if_neg (by omega)]
    have e : spFl2 p rule s = s := by unfold spFl2; rw [if_neg (fun h => a h.1)]
    rw [e]
    exact fin h s hI hs MGf.rf
theorem m_tick {h : jH} {b : Int} {rule th : Nat} {kpm : spKp} {s : spSt} {p : spPl} (hp1 : p.1 = ns) (hp2 : p.2.1 = blk) (hp3 : p.2.2.1 = len) (hP : MPl h o p) (hpk : spPok p) (hs : MS h o ns blk len kpm s) (hI : spInv ns blk len b s) (h52 : h o 52 = if rule = 0 then -1 else (rule : Int)) (ht : s.2.2.2.2.2.2.2.2.2.2 ≤ 998) (hth : th = 0 ∨ th = 1) (hkk : th = 0 → kpm = s.2.2.2.1.2) (h56 : h o 56 = (th : Int)) (h53 : jI32 (h o 53)) :
    ∃ h', M_tickGoes h o = some h' ∧ MTf o h h' ∧ MS h' o ns blk len (if th = 0 then (spTick p rule s).1.2.2.2.1.2 else kpm) (spTick p rule s).1 ∧ h' o 53 = wr (h o 53 + (spTick p rule s).2) ∧ h' o 55 = wr (h o 55 + 1) ∧ (0 ≤ h o 54 → 0 ≤ wr (h o 55 + 1) → h o 54 + (spAcks s : Int) * wr (h o 55 + 1) ≤ 2000000000 → h' o 54 = h o 54 + (spAcks s : Int) * wr (h o 55 + 1)) := by
  have hI1 := spInv_fl1 hI
  have ht1 : (spFl1 s).1.2.2.2.2.2.2.2.2.2.2 ≤ 998 := by rw [spFl1_tk]; exact ht
  have hkp : (spTick p rule s).1.2.2.2.1.2 = (spFl1 s).1.2.2.2.1.2 := by
    unfold spTick spFl3 spFl2 spClo
    dsimp only
    split
    · split <;> rfl
    · rfl
  rw [hkp]
  show ∃ h', M_tickGoes h o = some h' ∧ MTf o h h' ∧ MS h' o ns blk len (if th = 0 then (spFl1 s).1.2.2.2.1.2 else kpm) (spFl3 (spFl2 p rule (spFl1 s).1)) ∧ h' o 53 = wr (h o 53 + (spFl1 s).2) ∧ _
  obtain ⟨h0, hh0⟩ : ∃ h0 : jH, h0 = jup h o 55 (wr (h o 55 + 1)) := ⟨_, rfl⟩
  have k0 : ∀ z, z ≠ o → h0 z = h z := fun z hz => by rw [hh0, jup_ne hz]
  have kf : ∀ f, f ≠ 55 → h0 o f = h o f := fun f hf => by rw [hh0, ju_ne hf]
  have fin : ∀ (g : jH) (A : Int), MS g o ns blk len (if th = 0 then (spFl1 s).1.2.2.2.1.2 else kpm) (spFl1 s).1 → (∀ z, z ≠ o → z ≠ o + 33 → g z = h z) → (∀ f, f ≠ 53 → f ≠ 54 → f ≠ 55 → g o f = h o f) → g o 53 = wr (h o 53 + (spFl1 s).2) → g o 55 = wr (h o 55 + 1) → (0 ≤ h o 54 → 0 ≤ wr (h o 55 + 1) → h o 54 + A * wr (h o 55 + 1) ≤ 2000000000 → g o 54 = h o 54 + A * wr (h o 55 + 1)) → A = (spAcks s : Int) → ∃ h', M_tickGoes_p138 g o = some h' ∧ MTf o h h' ∧ MS h' o ns blk len (if th = 0 then (spFl1 s).1.2.2.2.1.2 else kpm) (spFl3 (spFl2 p rule (spFl1 s).1)) ∧ h' o 53 = wr (h o 53 + (spFl1 s).2) ∧ h' o 55 = wr (h o 55 + 1) ∧ (0 ≤ h o 54 → 0 ≤ wr (h o 55 + 1) → h o 54 + (spAcks s : Int) * wr (h o 55 + 1) ≤ 2000000000 → h' o 54 = h o 54 + (spAcks s : Int) * wr (h o 55 + 1)) := by
    intro g A hg go gf g53 g55 g54 hA
    obtain ⟨h', e1, e2, e3⟩ := m_p138 (rule := rule) hp1 hp2 hp3 (hP.eq (go _ (by omega) (by omega)) (go _ (by omega) (by omega)) (go _ (by omega) (by omega))) hpk hg hI1 (by rw [gf 52 (by decide) (by decide) (by decide)]; exact h52) ht1
    refine ⟨h', e1, ⟨fun z z1 z2 z3 z4 z5 => by rw [e2.1 z z1 z2 z3 z4 z5, go z z1 z2], fun f f1 f2 f3 f4 f5 f6 f7 f8 => by rw [e2.2 f f1 f2 f3 f4 f8, gf f f5 f6 f7]⟩, e3, by rw [e2.2 53 (by decide) (by decide) (by decide) (by decide) (by decide)]; exact g53, by rw [e2.2 55 (by decide) (by decide) (by decide) (by decide) (by decide)]; exact g55, fun a1 a2 a3 => ?_⟩
    rw [e2.2 54 (by decide) (by decide) (by decide) (by decide) (by decide), ← hA]
    rw [← hA] at a3
    exact g54 a1 a2 a3
  unfold M_tickGoes
  rw [if_pos (by decide), show ((4 : Int)).toNat = 4 from rfl, ← hh0]
  have hs0 := hs
  have hI0 := hI
  obtain ⟨⟨D, C⟩, ⟨F, lf⟩, ⟨q, fl, first⟩, ⟨wt, kp⟩, ⟨tab, stab, snap, tops⟩, ⟨sg, at', ser, gr, hl, tk⟩⟩ := s
  obtain ⟨i1, i2, i3, i4, i5, i6, i7⟩ := hI
  obtain ⟨c1, ⟨c2, c2'⟩, c3, ⟨c4, c4', c4''⟩, c5, ⟨t1, t2, t3, t4⟩, p1, p2, p3, p4, p5, p6, p7⟩ := hs
  dsimp only at hkk
  rw [k0 (o + 33) (by omega), c2.1]
  have hif : ∀ X : spKp, (th = 0 → X = kpm) → (if th = 0 then X else kpm) = kpm := fun X hX => by
    split
    · rename_i z; exact hX z
    · rfl
  by_cases a : F = []
  · rw [if_neg (by rw [a]; simp)]
    have e1 : spFl1 ((D, C), (F, lf), (q, fl, first), (wt, kp), (tab, stab, snap, tops), (sg, at', ser, gr, hl, tk)) = (((D, C), (F, lf), (q, fl, first), (wt, kp), (tab, stab, snap, tops), (sg, at', ser, gr, hl, tk)), 0) := by
      unfold spFl1; dsimp only; rw [if_pos a]
    refine fin h0 0 ?_ (fun z z1 _ => k0 z z1) (fun f _ _ f3 => kf f f3) ?_ (by rw [hh0, ju_eq]) (fun _ _ _ => ?_) ?_
    · rw [e1, hif _ (fun z => (hkk z).symm)]
      exact hs0.eq (k0 _ (by omega)) (k0 _ (by omega))
    · rw [e1, kf 53 (by decide)]
      show h o 53 = wr (h o 53 + 0)
      rw [Int.add_zero, wr_id h53]
    · rw [kf 54 (by decide)]; omega
    · unfold spAcks; dsimp only; rw [if_pos a]; rfl
  have hpos : 0 < F.length := by cases F with
    | nil => exact absurd rfl a
    | cons x r => simp
  have hl1 := i2.2.1 a
  have F512 := spInv_F hI0
  dsimp only at F512
  rw [if_pos (by omega), if_pos (by decide), if_pos (by decide), if_pos (by decide), show ((3 : Int)).toNat = 3 from rfl, ju_eq, c2', pw (by omega) (by omega)]
  obtain ⟨g, hg⟩ : ∃ g : jH, g = jup h0 (o + 33) 3 (lf - 1) := ⟨_, rfl⟩
  rw [← hg]
  have go : ∀ z, z ≠ o → z ≠ o + 33 → g z = h z := fun z z1 z2 => by rw [hg, jup_ne z2, k0 z z1]
  have gf : ∀ f, g o f = h0 o f := fun f => by rw [hg, jup_ne (by omega)]
  have gw : ∀ i, i ≠ 3 → g (o + 33) i = h (o + 33) i := fun i hi => by rw [hg, ju_ne hi, k0 _ (by omega)]
  by_cases bq : lf - 1 = 0
  rotate_left
  · rw [if_neg bq]
    have e1 : spFl1 ((D, C), (F, lf), (q, fl, first), (wt, kp), (tab, stab, snap, tops), (sg, at', ser, gr, hl, tk)) = (((D, C), (F, lf - 1), (q, fl, first), (wt, kp), (tab, stab, snap, tops), (sg, at', ser, gr, hl, tk)), 0) := by
      unfold spFl1; dsimp only; rw [if_neg a, if_neg (by omega)]
    refine fin g 0 ?_ go (fun f _ _ f3 => by rw [gf f, kf f f3]) ?_ (by rw [gf, hh0, ju_eq]) (fun _ _ _ => ?_) ?_
    · rw [e1, hif _ (fun z => (hkk z).symm)]
      have k := gw
      refine ⟨c1.fr i1.1 (go _ (by omega) (by omega)) (fun i _ _ => k i (by omega)), ⟨⟨by rw [k _ (by decide)]; exact c2.1, fun i e he => ?_⟩, by rw [hg, ju_eq]⟩, ⟨by rw [k _ (by decide)]; exact c3.1, by rw [k _ (by decide)]; exact c3.2.1, by rw [k _ (by decide)]; exact c3.2.2.1, c3.2.2.2.1, c3.2.2.2.2.1, fun i r hr => ?_⟩, ⟨by rw [k _ (by decide)]; exact c4, fun i e he => by rw [k _ (by omega)]; exact c4' i e he, fun x hx => by rw [k _ (by omega)]; exact c4'' x hx⟩, ⟨by rw [k _ (by decide)]; exact c5.1, c5.2.1, fun i e he => by rw [k _ (by omega), k _ (by omega), k _ (by omega)]; exact c5.2.2 i e he⟩, ⟨fun i hi => by rw [k _ (by omega)]; exact t1 i hi, fun i hi => by rw [k _ (by omega)]; exact t2 i hi, by rw [k _ (by decide)]; exact t3, fun i hi => by rw [k _ (by omega)]; exact t4 i hi⟩, by rw [k _ (by decide)]; exact p1, by rw [k _ (by decide)]; exact p2, by rw [k _ (by decide)]; exact p3, by rw [k _ (by decide)]; exact p4, by rw [k _ (by decide)]; exact p5, by rw [k _ (by decide)]; exact p6, by rw [k _ (by decide)]; exact p7⟩
      · rw [k _ (by omega), k _ (by omega)]; exact c2.2 i e he
      · rw [k _ (by omega), k _ (by omega), k _ (by omega), k _ (by omega)]; exact c3.2.2.2.2.2 i r hr
    · rw [e1, gf, kf 53 (by decide)]
      show h o 53 = wr (h o 53 + 0)
      rw [Int.add_zero, wr_id h53]
    · rw [gf, kf 54 (by decide)]; omega
    · unfold spAcks; dsimp only; rw [if_neg a, if_neg (by omega)]; rfl
  · rw [if_pos bq, if_pos (by decide), gw 4 (by decide), c2.1]
    have gD : MD g o ns blk len D C := c1.fr i1.1 (go _ (by omega) (by omega)) (fun i _ _ => gw i (by omega))
    have gF : MF (g (o + 33)) F := ⟨by rw [gw _ (by decide)]; exact c2.1, fun i e he => by rw [gw _ (by omega), gw _ (by omega)]; exact c2.2 i e he⟩
    obtain ⟨h1, a1, a2, a3, a4, a5, a6⟩ := m_arrive (o := o) i1.1 (fun e he => ⟨(i2.1 e he).1, (i2.1 e he).2.1⟩) F512 (Nat.le_refl _) gD gF
    rw [List.take_length] at a6
    rw [a1]
    simp only [Option.bind_some]
    have k : ∀ i, i ≠ 3 → i ≠ 4 → (i < 196 ∨ 1220 ≤ i) → h1 (o + 33) i = h (o + 33) i := fun i j1 j2 j3 => by rw [a3 i j1 j2 j3, gw i j1]
    have k1 : h1 o = h0 o := by rw [a2 o (by omega)]; exact funext gf
    obtain ⟨h2, b1, b2, b3, b4, b5, b6, b7, b8⟩ := m_ackL (o := o) (fl := fl) (th := th) (tick := tk) (first := first) (q := q) i3.2.1 c3.2.2.2.1 (by have := i3.2.2.2.2; omega) (fun r hr => (i3.1 r hr).1) hth fl 0 h1 tab wt kp kpm 0 (by omega) (by rw [k _ (by decide) (by decide) (by decide), c3.1]; omega) (by rw [k _ (by decide) (by decide) (by decide)]; exact c3.2.1) (by rw [k _ (by decide) (by decide) (by decide)]; exact c3.2.2.1) (fun j r hr => by
      have hm : ((first + (j : Int)) % 32).toNat < 32 := by omega
      have hz := c3.2.2.2.2.2 j r hr
      unfold MQr
      rw [k _ (by omega) (by omega) (by omega), k _ (by omega) (by omega) (by omega), k _ (by omega) (by omega) (by omega)]
      exact ⟨hz.1, hz.2.1, hz.2.2.1⟩) (by rw [k _ (by decide) (by decide) (by decide)]; exact p6) ⟨by rw [k _ (by decide) (by decide) (by decide)]; exact c4, fun i e he => by
      have hk := (List.getElem?_eq_some_iff.mp he).1
      have := i4.1
      rw [k _ (by omega) (by omega) (by omega)]; exact c4' i e he, fun x hx => by rw [k _ (by omega) (by omega) (by omega)]; exact c4'' x hx⟩ i4.2.1 i4.1 ⟨by rw [k _ (by decide) (by decide) (by decide)]; exact c5.1, c5.2.1, fun i e he => by rw [k _ (by omega) (by omega) (by omega), k _ (by omega) (by omega) (by omega), k _ (by omega) (by omega) (by omega)]; exact c5.2.2 i e he⟩ hkk (fun i hi => by rw [k _ (by omega) (by omega) (by omega)]; exact t1 i hi) (by rw [k1, kf 56 (by decide)]; exact h56) (by rw [k1, kf 53 (by decide)]; exact h53)
    rw [List.drop_zero, show first + ((0 : Nat) : Int) = first by omega] at b4 b5 b6 b7
    rw [b1]
    have e1 : spFl1 ((D, C), (F, lf), (q, fl, first), (wt, kp), (tab, stab, snap, tops), (sg, at', ser, gr, hl, tk)) = (((spArrD F D, spArrC F C), ([], 0), (q.drop fl, 0, first + (fl : Int)), ((spAck tk (q.take fl) first (tab, wt, kp, 0)).2.1, (spAck tk (q.take fl) first (tab, wt, kp, 0)).2.2.1), ((spAck tk (q.take fl) first (tab, wt, kp, 0)).1, stab, snap, tops), (sg, at', ser, gr, hl, tk)), (spAck tk (q.take fl) first (tab, wt, kp, 0)).2.2.2) := by
      unfold spFl1; dsimp only; rw [if_neg a, if_pos (by omega)]
    have k2 : ∀ i, i ≠ 2 → i ≠ 3 → i ≠ 4 → i ≠ 12 → ¬ (144 ≤ i ∧ i < 160) → ¬ (176 ≤ i ∧ i < 192) → (i < 196 ∨ 1220 ≤ i) → (i < 2244 ∨ 2365 ≤ i) → h2 (o + 33) i = h (o + 33) i := fun i j1 j2 j3 j4 j5 j6 j7 j8 => by rw [b2.2.2 i j1 j4 j5 j6 j8, k i j2 j3 j7]
    have h2o : ∀ z, z ≠ o → z ≠ o + 33 → h2 z = h z := fun z z1 z2 => by rw [b2.1 z z1 z2, a2 z z2, go z z1 z2]
    refine fin h2 (fl : Int) ?_ h2o (fun f f1 f2 f3 => by rw [b2.2.1 f f1 f2, k1, kf f f3]) ?_ (by rw [b2.2.1 55 (by decide) (by decide), k1, hh0, ju_eq]) (fun x1 x2 x3 => ?_) ?_
    · rw [e1]
      refine ⟨a6.fr i1.1 (by rw [b2.1 _ (by omega) (by omega)]) (fun i _ _ => b2.2.2 i (by omega) (by omega) (by omega) (by omega) (by omega)), ⟨⟨by rw [b2.2.2 4 (by decide) (by decide) (by decide) (by decide) (by decide), a4]; rfl, fun i e he => by cases he⟩, by rw [b2.2.2 3 (by decide) (by decide) (by decide) (by decide) (by decide), a5]⟩, ⟨b3, ?_, ?_, ?_, ?_, fun i r hr => ?_⟩, b4, b5, ⟨b6, fun i hi => by rw [k2 _ (by omega) (by omega) (by omega) (by omega) (by omega) (by omega) (by omega) (by omega)]; exact t2 i hi, by rw [k2 _ (by omega) (by omega) (by omega) (by omega) (by omega) (by omega) (by omega) (by omega)]; exact t3, fun i hi => by rw [k2 _ (by omega) (by omega) (by omega) (by omega) (by omega) (by omega) (by omega) (by omega)]; exact t4 i hi⟩, ?_, ?_, ?_, ?_, ?_, ?_, ?_⟩
      · rw [k2 1 (by omega) (by omega) (by omega) (by omega) (by omega) (by omega) (by omega) (by omega), c3.2.1, List.length_drop]; have := i3.2.1; omega
      · rw [k2 11 (by omega) (by omega) (by omega) (by omega) (by omega) (by omega) (by omega) (by omega), c3.2.2.1, List.length_drop]; have := i3.2.1; omega
      · rw [List.length_drop]; have := c3.2.2.2.1; omega
      · omega
      · rw [List.getElem?_drop] at hr
        have hm : ((first + (fl : Int) + (i : Int)) % 32).toNat < 32 := by omega
        have hz := c3.2.2.2.2.2 _ r hr
        rw [show first + ((fl + i : Nat) : Int) = first + (fl : Int) + (i : Int) by omega] at hz
        rw [k2 _ (by omega) (by omega) (by omega) (by omega) (by omega) (by omega) (by omega) (by omega), k2 _ (by omega) (by omega) (by omega) (by omega) (by omega) (by omega) (by omega) (by omega), k2 _ (by omega) (by omega) (by omega) (by omega) (by omega) (by omega) (by omega) (by omega), k2 _ (by omega) (by omega) (by omega) (by omega) (by omega) (by omega) (by omega) (by omega)]
        exact hz
      · rw [k2 _ (by omega) (by omega) (by omega) (by omega) (by omega) (by omega) (by omega) (by omega)]; exact p1
      · rw [k2 _ (by omega) (by omega) (by omega) (by omega) (by omega) (by omega) (by omega) (by omega)]; exact p2
      · rw [k2 _ (by omega) (by omega) (by omega) (by omega) (by omega) (by omega) (by omega) (by omega)]; exact p3
      · rw [k2 _ (by omega) (by omega) (by omega) (by omega) (by omega) (by omega) (by omega) (by omega)]; exact p4
      · rw [k2 _ (by omega) (by omega) (by omega) (by omega) (by omega) (by omega) (by omega) (by omega)]; exact p5
      · rw [k2 _ (by omega) (by omega) (by omega) (by omega) (by omega) (by omega) (by omega) (by omega)]; exact p6
      · rw [k2 _ (by omega) (by omega) (by omega) (by omega) (by omega) (by omega) (by omega) (by omega)]; exact p7
    · rw [e1, b7, k1, kf 53 (by decide)]
      show wr (h o 53 + (_ - 0)) = wr (h o 53 + _)
      rw [Int.sub_zero]
    · rw [b8, k1, kf 54 (by decide), hh0, ju_eq]
      · rw [k1, kf 54 (by decide)]; exact x1
      · rw [k1, hh0, ju_eq]; exact x2
      · rw [k1, kf 54 (by decide), hh0, ju_eq]; exact x3
    · unfold spAcks; dsimp only; rw [if_neg a, if_pos (by omega)]
end MTW
