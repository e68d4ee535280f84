/-! journal: the class -/
/-- where the plan that stands and the draft lie -/
def PLs (o0 pl pd : Nat) : Prop := (pl = o0 + 5 ∧ pd = o0 + 18) ∨ (pl = o0 + 18 ∧ pd = o0 + 5)
theorem PLs.sw {o0 pl pd : Nat} (p : PLs o0 pl pd) : PLs o0 pd pl := by rcases p with ⟨a, b⟩ | ⟨a, b⟩ <;> first | exact Or.inr ⟨b, a⟩ | exact Or.inl ⟨b, a⟩
theorem PLs.pos {o0 pl pd : Nat} (p : PLs o0 pl pd) : (o0 + 4 < pl ∧ pl + 12 < o0 + 34) ∧ (o0 + 4 < pd ∧ pd + 12 < o0 + 34) ∧ (pd + 11 < pl ∨ pl + 11 < pd) ∧ (o0 + 17 < pl ∨ pl + 11 < o0 + 17) ∧ (o0 + 17 < pd ∨ pd + 11 < o0 + 17) := by rcases p with ⟨a, b⟩ | ⟨a, b⟩ <;> omega
/-- the class's terrain -/
def CTn (T : jT) (o0 : Nat) : Prop := RTp T o0 ∧ isX6 T (o0 + 5) ∧ isX6 T (o0 + 18) ∧ isX2 T (o0 + 30) ∧ T.1[o0 + 1]? = some (20, 1600)
theorem CTn.pl {T : jT} {o0 pl pd : Nat} (t : CTn T o0) (p : PLs o0 pl pd) : isX6 T pl ∧ isX6 T pd := by rcases p with ⟨a, b⟩ | ⟨a, b⟩ <;> rw [a, b] <;> first | exact ⟨t.2.1, t.2.2.1⟩ | exact ⟨t.2.2.1, t.2.1⟩
/-- what a refused journal may change -/
def CJn (o0 pd : Nat) (h h' : jH) : Prop := (∀ z, z ≠ o0 → z ≠ o0 + 3 → z ≠ o0 + 17 → (z < pd ∨ pd + 11 < z) → h' z = h z) ∧ (∀ f, f ≠ 1 → h' o0 f = h o0 f) ∧ h' (o0 + 17) 0 = h (o0 + 17) 0
/-- what a journal that stands may change -/
def CJy (o0 pd : Nat) (h h' : jH) : Prop := (∀ z, z ≠ o0 → z ≠ o0 + 17 → (z < pd ∨ pd + 11 < z) → (z < o0 + 35 ∨ o0 + 55 < z) → h' z = h z) ∧ ∀ f, f ≠ 1 → f ≠ 7 → f ≠ 8 → f ≠ 13 → h' o0 f = h o0 f
section CJL
variable {T : jT} {h : jH} {o0 pl pd : Nat} {tp : List Int}
theorem c_journal (hT : CTn T o0) (hp : PLs o0 pl pd) (h8 : h o0 8 = (pl : Int)) (hdr : h (o0 + 17) 0 = (pd : Int)) (hby : spByt tp) (hL : CTa h o0 tp) :
    (∀ e, spJour tp = .inl e → ∃ h', G_journal T h o0 = some (-1, h') ∧ CJn o0 pd h h' ∧ h' o0 1 = 0 ∧ (∀ i, h' (o0 + 3) i = (if i = 1 then wr (h (o0 + 3) 1 + 1) else h (o0 + 3) i)) ∧ PBad (o0 + 17) h' e) ∧
    ∀ a b c n q, spJour tp = .inr ((a, b, c), n, q) → ∃ h', G_journal T h o0 = some ((n : Int), h') ∧ CJy o0 pd h h' ∧ (h' o0 1 = 0 ∧ h' o0 7 = 0 ∧ h' o0 8 = (pd : Int) ∧ h' o0 13 = 0) ∧ (h' (o0 + 17) 0 = (pl : Int) ∧ h' (o0 + 17) 3 = 0 ∧ h' (o0 + 17) 4 = -1) ∧ (h' pd 0 = a ∧ h' pd 1 = b ∧ h' pd 2 = c ∧ h' pd 3 = q.2.2.1) ∧ CPl h' pd (spPlOf a b c q) ∧ h' (o0 + 35) 0 = (pd : Int) ∧ CS h' (o0 + 35) a.toNat c.toNat (b * c).toNat 0 (spPuts c.toNat (b * c).toNat q.2.2.2 spSt0) := by
  obtain ⟨p1, p2, p3, p4, p5⟩ := hp.pos
  obtain ⟨t1, t2⟩ := hT.pl hp
  obtain ⟨l1, l2, l3⟩ := hL
  obtain ⟨g0, hg0⟩ : ∃ g0 : jH, g0 = jup h o0 1 0 := ⟨_, rfl⟩
  have go0 : ∀ z, z ≠ o0 → g0 z = h z := fun z hz => by rw [hg0, jup_ne hz]
  have gf0 : ∀ f, f ≠ 1 → g0 o0 f = h o0 f := fun f hf => by rw [hg0, ju_ne hf]
  obtain ⟨g1, v, a1, a2, a3, a4⟩ := c_readJ (T := T) (P := o0 + 17) (tq := o0 + 1) (pl := pd) (tp := tp) (h := g0) t2 hT.2.2.2.2 p5 (by omega) (by omega) (by rw [go0 _ (by omega)]; exact hdr) l2 hby (fun j v hv => by rw [go0 _ (by omega)]; exact l3 j v hv)
  have hst : G_journal T h o0 = (if v = 0 then Option.bind (G_refuse g1 o0 1) (fun b4 => some (b4.1, b4.2)) else Option.bind (jdyn (isX6 T) (g1 (o0 + 17) 0)) (fun q5 => Option.bind (jdyn (isX6 T) (g1 o0 8)) (fun q6 => Option.bind (G_begin T (jup (jup g1 (o0 + 17) 0 (Int.ofNat q6)) o0 8 (Int.ofNat q5)) o0) (fun b7 => Option.bind (jdyn (isX6 T) (b7 o0 8)) (fun q8 => some ((b7 q8 4), b7)))))) := by
    unfold G_journal G_takeTape
    rw [Option.bind_some]
    dsimp only
    rw [← hg0, l1, a1, Option.bind_some]
  have eo1 : g1 o0 = g0 o0 := a2.1 o0 (by omega) (by omega)
  refine ⟨fun e he => ?_, fun a b c n q he => ?_⟩
  · obtain ⟨rfl, hb⟩ := a3 e he
    rw [if_pos rfl] at hst
    obtain ⟨g2, hg2⟩ : ∃ g2 : jH, g2 = jup g1 (o0 + 3) 1 (wr (g1 (o0 + 3) 1 + 1)) := ⟨_, rfl⟩
    have hrf : G_refuse g1 o0 1 = some (-1, g2) := by
      unfold G_refuse
      rw [show (1 : Int) = ((1 : Nat) : Int) from rfl, g_cellN (by decide), Option.bind_some, g_putN (by decide), Option.bind_some, hg2]
      rfl
    rw [hrf, Option.bind_some] at hst
    have go2 : ∀ z, z ≠ o0 + 3 → g2 z = g1 z := fun z hz => by rw [hg2, jup_ne hz]
    have e3 : g1 (o0 + 3) = h (o0 + 3) := by rw [a2.1 _ (by omega) (by omega), go0 _ (by omega)]
    refine ⟨g2, hst, ⟨fun z z1 z2 z3 z4 => by rw [go2 z z2, a2.1 z z3 z4, go0 z z1], fun f hf => by rw [go2 o0 (by omega), eo1, gf0 f hf], by rw [go2 _ (by omega), a2.2, go0 _ (by omega)]⟩, by rw [go2 o0 (by omega), eo1, hg0, ju_eq], fun i => ?_, by rw [go2 _ (by omega)]; exact hb.1, by rw [go2 _ (by omega)]; exact hb.2⟩
    rw [hg2, ju_if, e3]
  · obtain ⟨rfl, x0, x1, x2, x4, k, g, s1, s2, s3⟩ := a4 a b c n q he
    obtain ⟨⟨o1, o2, o3⟩, o4, o5, o6⟩ := spJour_ok he
    rw [if_neg (by decide), s2, jdyn_at t2, Option.bind_some, eo1, gf0 8 (by decide), h8, jdyn_at t1, Option.bind_some] at hst
    obtain ⟨⟨d1, d2⟩, ⟨d3, d4⟩, d5, d6, d7⟩ := s3
    obtain ⟨ns, hns⟩ : ∃ ns : Nat, ns = a.toNat := ⟨_, rfl⟩
    obtain ⟨bm, hbm⟩ : ∃ bm : Nat, bm = b.toNat := ⟨_, rfl⟩
    obtain ⟨blk, hblk⟩ : ∃ blk : Nat, blk = c.toNat := ⟨_, rfl⟩
    have ea : a = (ns : Int) := by omega
    have eb : b = (bm : Int) := by omega
    have ec : c = (blk : Int) := by omega
    have el : (b * c).toNat = bm * blk := by rw [eb, ec, ← Int.natCast_mul, Int.toNat_natCast]
    have hd0 : spDim ns blk (bm * blk) := ⟨by omega, by omega, by omega, by omega, bm, by omega, by omega, rfl⟩
    obtain ⟨g2, hg2⟩ : ∃ g2 : jH, g2 = jup (jup g1 (o0 + 17) 0 (Int.ofNat pl)) o0 8 (Int.ofNat pd) := ⟨_, rfl⟩
    rw [← hg2] at hst
    obtain ⟨g3, hg3⟩ : ∃ g3 : jH, g3 = jup (jup g2 o0 7 0) o0 13 0 := ⟨_, rfl⟩
    have go3 : ∀ z, z ≠ o0 → z ≠ o0 + 17 → g3 z = g1 z := fun z z1 z2 => by rw [hg3, jup_ne z1, jup_ne z1, hg2, jup_ne z1, jup_ne z2]
    have f8 : g3 o0 8 = (pd : Int) := by rw [hg3, ju_ne (by decide), ju_ne (by decide), hg2, ju_eq]; rfl
    obtain ⟨g4, g5, y1, y2, y3, y4, y5⟩ := c_fst0 (h := g3) (o := o0 + 35) (pl := pd) (bm := bm) hd0 (by omega) (by rw [go3 _ (by omega) (by omega), x0]; exact ea) (by rw [go3 _ (by omega) (by omega), x1]; exact eb) (by rw [go3 _ (by omega) (by omega), x2]; exact ec) rfl
    have k5 : ∀ z, (z < o0 + 35 ∨ o0 + 55 < z) → g5 z = g3 z := fun z hz => y3 z (by omega)
    have kp : ∀ z, pd ≤ z → z ≤ pd + 11 → g5 z = g1 z := fun z z1 z2 => by rw [k5 z (by omega), go3 z (by omega) (by omega)]
    obtain ⟨g6, w1, w2, w3⟩ := c_putsL (T := T) (o0 := o0) (pl := pd) (n := 0) (ns := ns) (blk := blk) (len := bm * blk) t2 p2 q.2.2.2 o4.2.2.2.1 q.2.2.2.length 0 spSt0 0 g5 (by omega) (by have := o4.2.2.2.1; omega) (by rw [k5 o0 (by omega)]; exact f8) (by rw [kp _ (by omega) (by omega)]; exact d6) (fun i v hv => by rw [kp (pd + 9) (by omega) (by omega), kp (pd + 10) (by omega) (by omega), kp (pd + 11) (by omega) (by omega)]; exact d7 i v hv) ⟨spInv0 hd0 ⟨by decide, by decide⟩, spHal_st0⟩ y5
    have hbg : G_begin T g2 o0 = some g6 := by
      unfold G_begin
      rw [← hg3, f8, jdyn_at t2, Option.bind_some, y1, Option.bind_some, y2, Option.bind_some]
      exact w1
    have kq : ∀ z, (z < o0 + 35 ∨ o0 + 55 < z) → g6 z = g3 z := fun z hz => by rw [w2 z (by omega), k5 z hz]
    have kd : ∀ z, pd ≤ z → z ≤ pd + 11 → g6 z = g1 z := fun z z1 z2 => by rw [kq z (by omega), go3 z (by omega) (by omega)]
    rw [hbg, Option.bind_some, kq o0 (by omega), f8, jdyn_at t2, Option.bind_some, kd pd (by omega) (by omega), x4] at hst
    have e17 : ∀ f, f ≠ 0 → g6 (o0 + 17) f = g1 (o0 + 17) f := fun f hf => by rw [kq _ (by omega), hg3, jup_ne (by omega), jup_ne (by omega), hg2, jup_ne (by omega), ju_ne hf]
    refine ⟨g6, hst, ⟨fun z z1 z2 z3 z4 => by rw [kq z (by omega), go3 z z1 z2, a2.1 z z2 z3, go0 z z1], fun f f1 f7 f8 f13 => by rw [kq o0 (by omega), hg3, ju_ne f13, ju_ne f7, hg2, ju_ne f8, jup_ne (by omega), eo1, gf0 f f1]⟩, ⟨?_, ?_, by rw [kq o0 (by omega)]; exact f8, ?_⟩, ⟨?_, ?_, ?_⟩, ⟨by rw [kd pd (by omega) (by omega)]; exact x0, by rw [kd pd (by omega) (by omega)]; exact x1, by rw [kd pd (by omega) (by omega)]; exact x2, by rw [kd pd (by omega) (by omega)]; exact d5⟩, ⟨d2.eq (by rw [kd _ (by omega) (by omega)]) (kd _ (by omega) (by omega)), d4.eq (by rw [kd _ (by omega) (by omega)]) (kd _ (by omega) (by omega))⟩, ?_, ?_⟩
    · rw [kq o0 (by omega), hg3, ju_ne (by decide), ju_ne (by decide), hg2, ju_ne (by decide), jup_ne (by omega), eo1, hg0, ju_eq]
    · rw [kq o0 (by omega), hg3, ju_ne (by decide), ju_eq]
    · rw [kq o0 (by omega), hg3, ju_eq]
    · rw [kq _ (by omega), hg3, jup_ne (by omega), jup_ne (by omega), hg2, jup_ne (by omega), ju_eq]; rfl
    · rw [e17 3 (by decide)]; obtain ⟨-, ⟨u, u1, u2, u3, u4, u5⟩, -⟩ := s1; exact u4
    · rw [e17 4 (by decide)]; obtain ⟨-, ⟨u, u1, u2, u3, u4, u5⟩, -⟩ := s1; exact u5
    · rw [w2 _ (by omega)]; exact y4
    · rw [el, ← hns, ← hblk]
      exact w3
end CJL
