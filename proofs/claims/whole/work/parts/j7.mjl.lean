/-! journal: the reference -/
/-- what a refused journal may change -/
def MJn (o : Nat) (h h' : jH) : Prop := (∀ z, z ≠ o → z ≠ o + 2 → z ≠ o + 28 → z ≠ o + 29 → z ≠ o + 30 → z ≠ o + 31 → z ≠ o + 32 → z ≠ o + 65 → z ≠ o + 66 → h' z = h z) ∧ (∀ f, f ≠ 1 → f ≠ 3 → f ≠ 7 → f ≠ 8 → mJfe f = false → h' o f = h o f) ∧ (∀ i, 5 ≤ i → h' (o + 28) i = h (o + 28) i) ∧ (∀ i, 2 ≤ i → h' (o + 30) i = h (o + 30) i) ∧ (∀ i, 2 ≤ i → h' (o + 31) i = h (o + 31) i) ∧ ∀ i, 1600 ≤ i → h' (o + 32) i = h (o + 32) i
/-- what a journal that stands may change -/
def MJy (o : Nat) (h h' : jH) : Prop := (∀ z, z ≠ o → z ≠ o + 28 → z ≠ o + 29 → z ≠ o + 30 → z ≠ o + 31 → z ≠ o + 32 → z ≠ o + 33 → z ≠ o + 65 → z ≠ o + 66 → h' z = h z) ∧ ∀ f, f ≠ 1 → f ≠ 3 → f ≠ 7 → f ≠ 8 → f ≠ 43 → f ≠ 66 → f ≠ 73 → mJfe f = false → h' o f = h o f
section MJL
variable {h : jH} {o : Nat} {tp : List Int}
theorem m_journal (hL : CTa h o tp) (hby : spByt tp) (hw : MWd h o) (hj : MWj h o) :
    (∀ e, spJour tp = .inl e → ∃ h', M_journal h o = some (-1, h') ∧ MJn o h h' ∧ h' o 1 = 0 ∧ (∀ i, h' (o + 2) i = (if i = 1 then wr (h (o + 2) 1 + 1) else h (o + 2) i)) ∧ h' o 7 = e.1 ∧ h' o 8 = (e.2 : Int)) ∧
    ∀ a b c n q, spJour tp = .inr ((a, b, c), n, q) → ∃ h', M_journal h o = some ((n : Int), h') ∧ MJy o h h' ∧ (h' o 1 = 0 ∧ h' o 7 = 0 ∧ h' o 8 = -1 ∧ h' o 43 = 1 ∧ h' o 66 = 0 ∧ h' o 73 = 0) ∧ h' (o + 28) 9 = q.2.2.1 ∧ MPl h' o (spPlOf a b c q) ∧ MS h' o a.toNat c.toNat (b * c).toNat [] (spPuts c.toNat (b * c).toNat q.2.2.2 spSt0) := by
  obtain ⟨g1, a1, a2, a3, a4, a5⟩ := m_journal0 hL hby hw hj
  obtain ⟨g2, hg2⟩ : ∃ g2 : jH, g2 = jup (jup g1 o 7 (g1 o 5)) o 8 ((jup g1 o 7 (g1 o 5)) o 6) := ⟨_, rfl⟩
  have go2 : ∀ z, z ≠ o → g2 z = g1 z := fun z hz => by rw [hg2, jup_ne hz, jup_ne hz]
  have gf2 : ∀ f, f ≠ 7 → f ≠ 8 → g2 o f = g1 o f := fun f f7 f8 => by rw [hg2, ju_ne f8, ju_ne f7]
  have g7 : g2 o 7 = g1 o 5 := by rw [hg2, ju_ne (by decide), ju_eq]
  have g8 : g2 o 8 = g1 o 6 := by rw [hg2, ju_eq, ju_ne (by decide)]
  have hst : M_journal h o = (if g2 o 5 = 0 then Option.bind (M_stands g2 o) (fun b11 => some ((b11 o 42), b11)) else Option.bind (M_refuses g2 o 1) (fun b12 => some (b12.1, b12.2))) := by
    rw [a1]
    unfold M_journal_p103
    rw [← hg2]
  refine ⟨fun e he => ?_, fun a b c n q he => ?_⟩
  · obtain ⟨b1, b2, b3⟩ := a4 e he
    rw [if_neg (by rw [gf2 5 (by decide) (by decide), b1]; exact b3), show M_refuses g2 o 1 = _ from m_refuses (k := 1) (by decide), Option.bind_some] at hst
    obtain ⟨g3, hg3⟩ : ∃ g3 : jH, g3 = jup g2 (o + 2) 1 (wr (g2 (o + 2) 1 + 1)) := ⟨_, rfl⟩
    rw [← hg3] at hst
    have go3 : ∀ z, z ≠ o + 2 → g3 z = g2 z := fun z hz => by rw [hg3, jup_ne hz]
    have e2 : g2 (o + 2) = h (o + 2) := by rw [go2 _ (by omega), a2.1 _ (by omega) (by omega) (by omega) (by omega) (by omega) (by omega) (by omega) (by omega)]
    refine ⟨g3, hst, ⟨fun z z1 z2 z3 z4 z5 z6 z7 z8 z9 => by rw [go3 z z2, go2 z z1, a2.1 z z1 z3 z4 z5 z6 z7 z8 z9], fun f f1 f3 f7 f8 hf => by rw [go3 o (by omega), gf2 f f7 f8, a2.2.1 f f1 f3 hf], fun i hi => by rw [go3 _ (by omega), go2 _ (by omega), a2.2.2.1 i hi], fun i hi => by rw [go3 _ (by omega), go2 _ (by omega), a2.2.2.2.1 i hi], fun i hi => by rw [go3 _ (by omega), go2 _ (by omega), a2.2.2.2.2.1 i hi], fun i hi => by rw [go3 _ (by omega), go2 _ (by omega), a2.2.2.2.2.2 i hi]⟩, by rw [go3 o (by omega), gf2 1 (by decide) (by decide)]; exact a3, fun i => ?_, by rw [go3 o (by omega), g7]; exact b1, by rw [go3 o (by omega), g8]; exact b2⟩
    rw [hg3, ju_if, e2]
  · obtain ⟨x0, x1, x2, x3, k, g, s1, s2, s3, n', s4, s5⟩ := a5 a b c n q he
    obtain ⟨⟨o1, o2, o3⟩, o4, o5, o6⟩ := spJour_ok he
    obtain ⟨⟨t1, t2, t3, t4⟩, ⟨u, u1, u2, u3, u4⟩, u5, u6⟩ := s1
    have hk : k ≤ 1600 := by rw [← u3]; exact Nat.le_trans ((spPk_in u).2 u2) t2
    rw [if_pos (by rw [gf2 5 (by decide) (by decide)]; exact u6)] at hst
    obtain ⟨ns, hns⟩ : ∃ ns : Nat, ns = a.toNat := ⟨_, rfl⟩
    obtain ⟨bm, hbm⟩ : ∃ bm : Nat, bm = b.toNat := ⟨_, rfl⟩
    obtain ⟨blk, hblk⟩ : ∃ blk : Nat, blk = c.toNat := ⟨_, rfl⟩
    have ea : a = (ns : Int) := by omega
    have eb : b = (bm : Int) := by omega
    have ec : c = (blk : Int) := by omega
    have el : (b * c).toNat = bm * blk := by rw [eb, ec, ← Int.natCast_mul, Int.toNat_natCast]
    have hd0 : spDim ns blk (bm * blk) := ⟨by omega, by omega, by omega, by omega, bm, by omega, by omega, rfl⟩
    have s4' : MDr g2 o n' q := by
      obtain ⟨m1, m2, m3, m4, m5, m6⟩ := s4
      refine ⟨by rw [gf2 41 (by decide) (by decide)]; exact m1, ?_, ?_, by rw [go2 _ (by omega)]; exact m4, by rw [go2 _ (by omega)]; exact m5, fun i v hv => by rw [go2 _ (by omega)]; exact m6 i v hv⟩
      · cases hq : q.1 with
        | none => rw [hq] at m2; show g2 (o + 30) 0 = -1; rw [go2 _ (by omega)]; exact m2
        | some K =>
          rw [hq] at m2
          obtain ⟨s, k1, k2, k3, k4⟩ := m2
          exact ⟨s, by rw [go2 _ (by omega)]; exact k1, by rw [go2 _ (by omega)]; exact k2, k3, fun i v hv => by rw [go2 _ (by omega)]; exact k4 i v hv⟩
      · cases hq : q.2.1 with
        | none => rw [hq] at m3; show g2 (o + 30) 1 = -1; rw [go2 _ (by omega)]; exact m3
        | some K =>
          rw [hq] at m3
          obtain ⟨s, k1, k2, k3, k4⟩ := m3
          exact ⟨s, by rw [go2 _ (by omega)]; exact k1, by rw [go2 _ (by omega)]; exact k2, k3, fun i v hv => by rw [go2 _ (by omega)]; exact k4 i v hv⟩
    obtain ⟨g3, y1, y2, y3, y4, ⟨y5, y6, y7, y8, y9⟩, y10, y11⟩ := m_plan (o := o) (h := g2) (n := n') (a := a) (b := b) (c := c) (q := q) (by omega) s4' (by rw [go2 _ (by omega)]; exact x1) (by rw [go2 _ (by omega)]; exact x2) (by rw [go2 _ (by omega)]; exact x3)
    obtain ⟨g4, z1, z2, z3⟩ := m_emptied (o := o) (h := g3)
    obtain ⟨g5, w1, w2, w3⟩ := m_fst0 (o := o) (h := g4) (ns := ns) (blk := blk) (len := bm * blk) hd0 (by rw [z2 _ (by omega), y5]; exact ea) (by rw [z2 _ (by omega), y7]; exact ec) (by rw [z2 _ (by omega), y6, y7, eb, ec, Int.natCast_mul]) z3
    obtain ⟨g6, hg6⟩ : ∃ g6 : jH, g6 = jup (jup g5 o 73 0) o 66 0 := ⟨_, rfl⟩
    have go6 : ∀ z, z ≠ o → g6 z = g5 z := fun z hz => by rw [hg6, jup_ne hz, jup_ne hz]
    have k35 : ∀ z, z ≠ o + 33 → g5 z = g3 z := fun z hz => by rw [w2 z hz, z2 z hz]
    obtain ⟨g7', v1, v2, v3⟩ := m_putsL (o := o) (kpm := []) (ns := ns) (blk := blk) (len := bm * blk) hd0 q.2.2.2 o4.2.2.2.1 o4.2.2.2.2 q.2.2.2.length 0 spSt0 0 g6 (by omega) (by have := o4.2.2.2.1; omega) ⟨by rw [go6 _ (by omega), k35 _ (by omega)]; exact y10.1, fun i v hv => by rw [go6 _ (by omega), k35 _ (by omega)]; exact y10.2 i v hv⟩ ⟨spInv0 hd0 ⟨by decide, by decide⟩, spHal_st0⟩ (w3.eq (go6 _ (by omega)) (go6 _ (by omega)))
    have hs2 : M_stands g2 o = some g7' := by
      rw [y1, z1, w1, Option.bind_some, ← hg6]
      exact v1
    have e7 : g7' o = g6 o := v2 o (by omega)
    have kk : ∀ z, z ≠ o → z ≠ o + 33 → g7' z = g3 z := fun z z1 z2 => by rw [v2 z z2, go6 z z1, k35 z z2]
    have ko : ∀ f, f ≠ 43 → f ≠ 66 → f ≠ 73 → g7' o f = g2 o f := fun f f1 f2 f3 => by rw [e7, hg6, ju_ne f2, ju_ne f3, k35 o (by omega), y3 f f1]
    rw [hs2, Option.bind_some, ko 42 (by decide) (by decide) (by decide), gf2 42 (by decide) (by decide), x0] at hst
    refine ⟨g7', hst, ⟨fun z q1 q2 q3 q4 q5 q6 q7 q8 q9 => by rw [kk z q1 q7, y2 z q1 q2 q4 q5 q6, go2 z q1, a2.1 z q1 q2 q3 q4 q5 q6 q8 q9], fun f f1 f3 f7 f8 f43 f66 f73 hf => by rw [ko f f43 f66 f73, gf2 f f7 f8, a2.2.1 f f1 f3 hf]⟩, ⟨?_, ?_, ?_, ?_, ?_, ?_⟩, by rw [kk _ (by omega) (by omega)]; exact y9, y11.eq (kk _ (by omega) (by omega)) (kk _ (by omega) (by omega)) (kk _ (by omega) (by omega)), ?_⟩
    · rw [ko 1 (by decide) (by decide) (by decide), gf2 1 (by decide) (by decide)]; exact a3
    · rw [ko 7 (by decide) (by decide) (by decide), g7]; exact u6
    · rw [ko 8 (by decide) (by decide) (by decide), g8]; exact u4
    · rw [e7, hg6, ju_ne (by decide), ju_ne (by decide), k35 o (by omega)]; exact y4
    · rw [e7, hg6, ju_eq]
    · rw [e7, hg6, ju_ne (by decide), ju_eq]
    · rw [el, ← hns, ← hblk]
      exact v3
end MJL
