/-! the tape is fed and cut, on both sides; the fault, refusals -/
def spBy4 (n : Int) : List Int := [n / 2 ^ 24 % 256, n / 2 ^ 16 % 256, n / 2 ^ 8 % 256, n / 2 ^ 0 % 256]
def spBy20 (a b c d e : Int) : List Int := spBy4 a ++ (spBy4 b ++ (spBy4 c ++ (spBy4 d ++ spBy4 e)))
theorem spBy4_ok (n : Int) : spByt (spBy4 n) := by
  have key : ∀ x : Int, 0 ≤ x % 256 ∧ x % 256 < 256 := fun x => by omega
  intro v hv
  unfold spBy4 at hv
  simp only [List.mem_cons, List.not_mem_nil, or_false] at hv
  rcases hv with e | e | e | e <;> rw [e] <;> exact key _
theorem spByt.app {a b : List Int} (ha : spByt a) (hb : spByt b) : spByt (a ++ b) := fun v hv => by
  rcases List.mem_append.mp hv with h | h
  · exact ha v h
  · exact hb v h
theorem spBy20_ok (a b c d e : Int) : spByt (spBy20 a b c d e) := (spBy4_ok a).app ((spBy4_ok b).app ((spBy4_ok c).app ((spBy4_ok d).app (spBy4_ok e))))
theorem spByt.tk {a : List Int} (ha : spByt a) (n : Nat) : spByt (a.take n) := fun v hv => ha v (List.mem_of_mem_take hv)
/-- a byte, by a shift -/
theorem pj_byte {n : Int} {s : Nat} (hn : jI32 n) (hs : s < 31) : jand (jshr n (s : Int)) 255 = n / 2 ^ s % 256 := by
  rw [pj_255, pj_shr hs hn.1 hn.2]
/-- what feeding may change -/
def TPf (o : Nat) (h h' : jH) : Prop := (∀ z, z ≠ o → z ≠ o + 1 → h' z = h z) ∧ ∀ f, f ≠ 1 → h' o f = h o f
theorem TPf.tr {o : Nat} {h h1 h2 : jH} (a : TPf o h h1) (b : TPf o h1 h2) : TPf o h h2 := ⟨fun z x y => (b.1 z x y).trans (a.1 z x y), fun f x => (b.2 f x).trans (a.2 f x)⟩
section FED
variable {h : jH} {o o0 : Nat} {tp : List Int}
theorem CTa.put {v : Int} (hL : CTa h o tp) (hl : tp.length < 1600) : TPf o h (jup (jup h (o + 1) tp.length v) o 1 ((tp.length : Int) + 1)) ∧ CTa (jup (jup h (o + 1) tp.length v) o 1 ((tp.length : Int) + 1)) o (tp ++ [v]) := by
  refine ⟨⟨fun z z1 z2 => by rw [jup_ne z1, jup_ne z2], fun f hf => by rw [ju_ne hf, jup_ne (by omega)]⟩, by rw [ju_eq, List.length_append]; rfl, by rw [List.length_append]; simp only [List.length_cons, List.length_nil]; omega, fun j w hj => ?_⟩
  rw [jup_ne (by omega), ju_if]
  by_cases c : j = tp.length
  · rw [if_pos c]
    rw [c, List.getElem?_append_right (Nat.le_refl _), Nat.sub_self] at hj
    exact Option.some.inj hj
  · rw [if_neg c]
    have hi := (List.getElem?_eq_some_iff.mp hj).1
    rw [List.length_append] at hi
    simp only [List.length_cons, List.length_nil] at hi
    rw [List.getElem?_append_left (by omega)] at hj
    exact hL.2.2 j w hj
theorem c_fdB {n : Int} {s : Nat} (hn : jI32 n) (hs : s < 31) (hL : CTa h o0 tp) (hl : tp.length < 1600) : ∃ h', G_feedNumber_B3 h o0 n (s : Int) = some (.inl ((s : Int) - 8, h')) ∧ TPf o0 h h' ∧ CTa h' o0 (tp ++ [n / 2 ^ s % 256]) := by
  obtain ⟨f1, f2⟩ := hL.put (v := n / 2 ^ s % 256) hl
  refine ⟨_, ?_, f1, f2⟩
  unfold G_feedNumber_B3
  rw [if_neg (by omega), pj_byte hn hs, hL.1, g_putN hl, Option.bind_some, jup_ne (show o0 ≠ o0 + 1 by omega), hL.1, pw (x := (tp.length : Int) + 1) (by omega) (by omega), pw (x := (s : Int) + -8) (by omega) (by omega)]
  rfl
theorem c_fd4 {n : Int} (hn : jI32 n) (hL : CTa h o0 tp) (hl : tp.length + 4 ≤ 1600) : ∃ h', G_feedNumber h o0 n = some h' ∧ TPf o0 h h' ∧ CTa h' o0 (tp ++ spBy4 n) := by
  unfold G_feedNumber G_feedNumber_L3
  obtain ⟨h1, a1, a2, a3⟩ := c_fdB (s := 24) hn (by decide) hL (by omega)
  obtain ⟨h2, b1, b2, b3⟩ := c_fdB (s := 16) hn (by decide) a3 (by rw [List.length_append]; simp only [List.length_cons, List.length_nil]; omega)
  obtain ⟨h3, c1, c2, c3⟩ := c_fdB (s := 8) hn (by decide) b3 (by rw [List.length_append, List.length_append]; simp only [List.length_cons, List.length_nil]; omega)
  obtain ⟨h4, d1, d2, d3⟩ := c_fdB (s := 0) hn (by decide) c3 (by rw [List.length_append, List.length_append, List.length_append]; simp only [List.length_cons, List.length_nil]; omega)
  refine ⟨h4, (jloop_l a1).trans ((jloop_l b1).trans ((jloop_l c1).trans ((jloop_l d1).trans (jloop_r ?_)))), a2.tr (b2.tr (c2.tr d2)), ?_⟩
  · show G_feedNumber_B3 h4 o0 n (((0 : Nat) : Int) - 8) = _
    unfold G_feedNumber_B3
    rw [if_pos (by decide)]
    rfl
  · have e : tp ++ spBy4 n = tp ++ [n / 2 ^ 24 % 256] ++ [n / 2 ^ 16 % 256] ++ [n / 2 ^ 8 % 256] ++ [n / 2 ^ 0 % 256] := by unfold spBy4; simp
    rw [e]
    exact d3
theorem c_feedT {a b c d e : Int} (ha : jI32 a) (hb : jI32 b) (hc : jI32 c) (hd : jI32 d) (he : jI32 e) (hL : CTa h o0 tp) (hl : tp.length ≤ 1580) : ∃ h', G_feed h o0 a b c d e = some ((tp.length : Int) + 20, h') ∧ TPf o0 h h' ∧ CTa h' o0 (tp ++ spBy20 a b c d e) := by
  have l4 : ∀ n, (spBy4 n).length = 4 := fun n => rfl
  obtain ⟨h1, a1, a2, a3⟩ := c_fd4 ha hL (by omega)
  obtain ⟨h2, b1, b2, b3⟩ := c_fd4 hb a3 (by rw [List.length_append, l4]; omega)
  obtain ⟨h3, c1, c2, c3⟩ := c_fd4 hc b3 (by rw [List.length_append, List.length_append, l4, l4]; omega)
  obtain ⟨h4, d1, d2, d3⟩ := c_fd4 hd c3 (by rw [List.length_append, List.length_append, List.length_append, l4, l4, l4]; omega)
  obtain ⟨h5, e1, e2, e3⟩ := c_fd4 he d3 (by rw [List.length_append, List.length_append, List.length_append, List.length_append, l4, l4, l4, l4]; omega)
  have el : tp ++ spBy20 a b c d e = tp ++ spBy4 a ++ spBy4 b ++ spBy4 c ++ spBy4 d ++ spBy4 e := by unfold spBy20; simp only [List.append_assoc]
  have hf : CTa h5 o0 (tp ++ spBy20 a b c d e) := by rw [el]; exact e3
  refine ⟨h5, ?_, a2.tr (b2.tr (c2.tr (d2.tr e2))), hf⟩
  unfold G_feed
  rw [hL.1, if_neg (by omega), a1, Option.bind_some, b1, Option.bind_some, c1, Option.bind_some, d1, Option.bind_some, e1, Option.bind_some, hf.1, List.length_append]
  rfl
theorem c_feedNo {a b c d e : Int} (hL : CTa h o0 tp) (hl : ¬ tp.length ≤ 1580) : G_feed h o0 a b c d e = Option.bind (G_refuse h o0 0) (fun b2 => some (b2.1, b2.2)) := by
  unfold G_feed
  rw [hL.1, if_pos (by omega)]
theorem m_fdB {v1 v2 v3 v4 v5 n : Int} {i s : Nat} (hi : i < 20) (hs : s = 8 * (3 - i % 4)) (hn : jI32 n) (hL : CTa h o tp) (hl : tp.length < 1600) : ∃ h', M_feed_p81 h o v1 v2 v3 v4 v5 (i : Int) n = some (.inl (((i + 1 : Nat) : Int), h')) ∧ TPf o h h' ∧ CTa h' o (tp ++ [n / 2 ^ s % 256]) := by
  obtain ⟨f1, f2⟩ := hL.put (v := n / 2 ^ s % 256) hl
  refine ⟨_, ?_, f1, f2⟩
  have es : wr (8 * wr (3 - Int.tmod (i : Int) 4)) = (s : Int) := by
    rw [Int.tmod_eq_emod_of_nonneg (by omega), pw (x := 3 - (i : Int) % 4) (by omega) (by omega), pw (by omega) (by omega)]
    omega
  unfold M_feed_p81
  rw [es, pj_byte hn (by omega), hL.1, if_pos (by omega), Int.toNat_natCast, jup_ne (show o ≠ o + 1 by omega), hL.1, pw (x := (tp.length : Int) + 1) (by omega) (by omega), pw (x := (i : Int) + 1) (by omega) (by omega)]
  rfl

theorem m_feedT {a b c d e : Int} (ha : jI32 a) (hb : jI32 b) (hc : jI32 c) (hd : jI32 d) (he : jI32 e) (hL : CTa h o tp) (hl : tp.length ≤ 1580) : ∃ h', M_feed h o a b c d e = some ((tp.length : Int) + 20, h') ∧ TPf o h h' ∧ CTa h' o (tp ++ spBy20 a b c d e) := by
  have lx : ∀ (l : List Int) (x : Int), (l ++ [x]).length = l.length + 1 := fun l x => by rw [List.length_append]; rfl
  obtain ⟨g0, x0, y0, z0⟩ := m_fdB (v1 := a) (v2 := b) (v3 := c) (v4 := d) (v5 := e) (i := 0) (s := 24) (by decide) (by decide) ha hL (by omega)
  have t0 : M_feed_B28 h o a b c d e 0 = some (.inl (1, g0)) := by
    unfold M_feed_B28
    rw [if_pos (by decide), if_pos (by decide)]
    exact x0
  obtain ⟨g1, x1, y1, z1⟩ := m_fdB (v1 := a) (v2 := b) (v3 := c) (v4 := d) (v5 := e) (i := 1) (s := 16) (by decide) (by decide) ha z0 (by rw [lx]; omega)
  have t1 : M_feed_B28 g0 o a b c d e 1 = some (.inl (2, g1)) := by
    unfold M_feed_B28
    rw [if_pos (by decide), if_pos (by decide)]
    exact x1
  obtain ⟨g2, x2, y2, z2⟩ := m_fdB (v1 := a) (v2 := b) (v3 := c) (v4 := d) (v5 := e) (i := 2) (s := 8) (by decide) (by decide) ha z1 (by rw [lx, lx]; omega)
  have t2 : M_feed_B28 g1 o a b c d e 2 = some (.inl (3, g2)) := by
    unfold M_feed_B28
    rw [if_pos (by decide), if_pos (by decide)]
    exact x2
  obtain ⟨g3, x3, y3, z3⟩ := m_fdB (v1 := a) (v2 := b) (v3 := c) (v4 := d) (v5 := e) (i := 3) (s := 0) (by decide) (by decide) ha z2 (by rw [lx, lx, lx]; omega)
  have t3 : M_feed_B28 g2 o a b c d e 3 = some (.inl (4, g3)) := by
    unfold M_feed_B28
    rw [if_pos (by decide), if_pos (by decide)]
    exact x3
  obtain ⟨g4, x4, y4, z4⟩ := m_fdB (v1 := a) (v2 := b) (v3 := c) (v4 := d) (v5 := e) (i := 4) (s := 24) (by decide) (by decide) hb z3 (by rw [lx, lx, lx, lx]; omega)
  have t4 : M_feed_B28 g3 o a b c d e 4 = some (.inl (5, g4)) := by
    unfold M_feed_B28
    rw [if_pos (by decide), if_neg (by decide), if_pos (by decide)]
    exact x4
  obtain ⟨g5, x5, y5, z5⟩ := m_fdB (v1 := a) (v2 := b) (v3 := c) (v4 := d) (v5 := e) (i := 5) (s := 16) (by decide) (by decide) hb z4 (by rw [lx, lx, lx, lx, lx]; omega)
  have t5 : M_feed_B28 g4 o a b c d e 5 = some (.inl (6, g5)) := by
    unfold M_feed_B28
    rw [if_pos (by decide), if_neg (by decide), if_pos (by decide)]
    exact x5
  obtain ⟨g6, x6, y6, z6⟩ := m_fdB (v1 := a) (v2 := b) (v3 := c) (v4 := d) (v5 := e) (i := 6) (s := 8) (by decide) (by decide) hb z5 (by rw [lx, lx, lx, lx, lx, lx]; omega)
  have t6 : M_feed_B28 g5 o a b c d e 6 = some (.inl (7, g6)) := by
    unfold M_feed_B28
    rw [if_pos (by decide), if_neg (by decide), if_pos (by decide)]
    exact x6
  obtain ⟨g7, x7, y7, z7⟩ := m_fdB (v1 := a) (v2 := b) (v3 := c) (v4 := d) (v5 := e) (i := 7) (s := 0) (by decide) (by decide) hb z6 (by rw [lx, lx, lx, lx, lx, lx, lx]; omega)
  have t7 : M_feed_B28 g6 o a b c d e 7 = some (.inl (8, g7)) := by
    unfold M_feed_B28
    rw [if_pos (by decide), if_neg (by decide), if_pos (by decide)]
    exact x7
  obtain ⟨g8, x8, y8, z8⟩ := m_fdB (v1 := a) (v2 := b) (v3 := c) (v4 := d) (v5 := e) (i := 8) (s := 24) (by decide) (by decide) hc z7 (by rw [lx, lx, lx, lx, lx, lx, lx, lx]; omega)
  have t8 : M_feed_B28 g7 o a b c d e 8 = some (.inl (9, g8)) := by
    unfold M_feed_B28
    rw [if_pos (by decide), if_neg (by decide), if_neg (by decide), if_pos (by decide)]
    exact x8
  obtain ⟨g9, x9, y9, z9⟩ := m_fdB (v1 := a) (v2 := b) (v3 := c) (v4 := d) (v5 := e) (i := 9) (s := 16) (by decide) (by decide) hc z8 (by rw [lx, lx, lx, lx, lx, lx, lx, lx, lx]; omega)
  have t9 : M_feed_B28 g8 o a b c d e 9 = some (.inl (10, g9)) := by
    unfold M_feed_B28
    rw [if_pos (by decide), if_neg (by decide), if_neg (by decide), if_pos (by decide)]
    exact x9
  obtain ⟨g10, x10, y10, z10⟩ := m_fdB (v1 := a) (v2 := b) (v3 := c) (v4 := d) (v5 := e) (i := 10) (s := 8) (by decide) (by decide) hc z9 (by rw [lx, lx, lx, lx, lx, lx, lx, lx, lx, lx]; omega)
  have t10 : M_feed_B28 g9 o a b c d e 10 = some (.inl (11, g10)) := by
    unfold M_feed_B28
    rw [if_pos (by decide), if_neg (by decide), if_neg (by decide), if_pos (by decide)]
    exact x10
  obtain ⟨g11, x11, y11, z11⟩ := m_fdB (v1 := a) (v2 := b) (v3 := c) (v4 := d) (v5 := e) (i := 11) (s := 0) (by decide) (by decide) hc z10 (by rw [lx, lx, lx, lx, lx, lx, lx, lx, lx, lx, lx]; omega)
  have t11 : M_feed_B28 g10 o a b c d e 11 = some (.inl (12, g11)) := by
    unfold M_feed_B28
    rw [if_pos (by decide), if_neg (by decide), if_neg (by decide), if_pos (by decide)]
    exact x11
  obtain ⟨g12, x12, y12, z12⟩ := m_fdB (v1 := a) (v2 := b) (v3 := c) (v4 := d) (v5 := e) (i := 12) (s := 24) (by decide) (by decide) hd z11 (by rw [lx, lx, lx, lx, lx, lx, lx, lx, lx, lx, lx, lx]; omega)
  have t12 : M_feed_B28 g11 o a b c d e 12 = some (.inl (13, g12)) := by
    unfold M_feed_B28
    rw [if_pos (by decide), if_neg (by decide), if_neg (by decide), if_neg (by decide), if_pos (by decide)]
    exact x12
  obtain ⟨g13, x13, y13, z13⟩ := m_fdB (v1 := a) (v2 := b) (v3 := c) (v4 := d) (v5 := e) (i := 13) (s := 16) (by decide) (by decide) hd z12 (by rw [lx, lx, lx, lx, lx, lx, lx, lx, lx, lx, lx, lx, lx]; omega)
  have t13 : M_feed_B28 g12 o a b c d e 13 = some (.inl (14, g13)) := by
    unfold M_feed_B28
    rw [if_pos (by decide), if_neg (by decide), if_neg (by decide), if_neg (by decide), if_pos (by decide)]
    exact x13
  obtain ⟨g14, x14, y14, z14⟩ := m_fdB (v1 := a) (v2 := b) (v3 := c) (v4 := d) (v5 := e) (i := 14) (s := 8) (by decide) (by decide) hd z13 (by rw [lx, lx, lx, lx, lx, lx, lx, lx, lx, lx, lx, lx, lx, lx]; omega)
  have t14 : M_feed_B28 g13 o a b c d e 14 = some (.inl (15, g14)) := by
    unfold M_feed_B28
    rw [if_pos (by decide), if_neg (by decide), if_neg (by decide), if_neg (by decide), if_pos (by decide)]
    exact x14
  obtain ⟨g15, x15, y15, z15⟩ := m_fdB (v1 := a) (v2 := b) (v3 := c) (v4 := d) (v5 := e) (i := 15) (s := 0) (by decide) (by decide) hd z14 (by rw [lx, lx, lx, lx, lx, lx, lx, lx, lx, lx, lx, lx, lx, lx, lx]; omega)
  have t15 : M_feed_B28 g14 o a b c d e 15 = some (.inl (16, g15)) := by
    unfold M_feed_B28
    rw [if_pos (by decide), if_neg (by decide), if_neg (by decide), if_neg (by decide), if_pos (by decide)]
    exact x15
  obtain ⟨g16, x16, y16, z16⟩ := m_fdB (v1 := a) (v2 := b) (v3 := c) (v4 := d) (v5 := e) (i := 16) (s := 24) (by decide) (by decide) he z15 (by rw [lx, lx, lx, lx, lx, lx, lx, lx, lx, lx, lx, lx, lx, lx, lx, lx]; omega)
  have t16 : M_feed_B28 g15 o a b c d e 16 = some (.inl (17, g16)) := by
    unfold M_feed_B28
    rw [if_pos (by decide), if_neg (by decide), if_neg (by decide), if_neg (by decide), if_neg (by decide)]
    exact x16
  obtain ⟨g17, x17, y17, z17⟩ := m_fdB (v1 := a) (v2 := b) (v3 := c) (v4 := d) (v5 := e) (i := 17) (s := 16) (by decide) (by decide) he z16 (by rw [lx, lx, lx, lx, lx, lx, lx, lx, lx, lx, lx, lx, lx, lx, lx, lx, lx]; omega)
  have t17 : M_feed_B28 g16 o a b c d e 17 = some (.inl (18, g17)) := by
    unfold M_feed_B28
    rw [if_pos (by decide), if_neg (by decide), if_neg (by decide), if_neg (by decide), if_neg (by decide)]
    exact x17
  obtain ⟨g18, x18, y18, z18⟩ := m_fdB (v1 := a) (v2 := b) (v3 := c) (v4 := d) (v5 := e) (i := 18) (s := 8) (by decide) (by decide) he z17 (by rw [lx, lx, lx, lx, lx, lx, lx, lx, lx, lx, lx, lx, lx, lx, lx, lx, lx, lx]; omega)
  have t18 : M_feed_B28 g17 o a b c d e 18 = some (.inl (19, g18)) := by
    unfold M_feed_B28
    rw [if_pos (by decide), if_neg (by decide), if_neg (by decide), if_neg (by decide), if_neg (by decide)]
    exact x18
  obtain ⟨g19, x19, y19, z19⟩ := m_fdB (v1 := a) (v2 := b) (v3 := c) (v4 := d) (v5 := e) (i := 19) (s := 0) (by decide) (by decide) he z18 (by rw [lx, lx, lx, lx, lx, lx, lx, lx, lx, lx, lx, lx, lx, lx, lx, lx, lx, lx, lx]; omega)
  have t19 : M_feed_B28 g18 o a b c d e 19 = some (.inl (20, g19)) := by
    unfold M_feed_B28
    rw [if_pos (by decide), if_neg (by decide), if_neg (by decide), if_neg (by decide), if_neg (by decide)]
    exact x19
  have el : tp ++ spBy20 a b c d e = tp ++ [a / 2 ^ 24 % 256] ++ [a / 2 ^ 16 % 256] ++ [a / 2 ^ 8 % 256] ++ [a / 2 ^ 0 % 256] ++ [b / 2 ^ 24 % 256] ++ [b / 2 ^ 16 % 256] ++ [b / 2 ^ 8 % 256] ++ [b / 2 ^ 0 % 256] ++ [c / 2 ^ 24 % 256] ++ [c / 2 ^ 16 % 256] ++ [c / 2 ^ 8 % 256] ++ [c / 2 ^ 0 % 256] ++ [d / 2 ^ 24 % 256] ++ [d / 2 ^ 16 % 256] ++ [d / 2 ^ 8 % 256] ++ [d / 2 ^ 0 % 256] ++ [e / 2 ^ 24 % 256] ++ [e / 2 ^ 16 % 256] ++ [e / 2 ^ 8 % 256] ++ [e / 2 ^ 0 % 256] := by unfold spBy20 spBy4; simp only [List.append_assoc, List.cons_append, List.nil_append]
  have hf : CTa g19 o (tp ++ spBy20 a b c d e) := by rw [el]; exact z19
  refine ⟨g19, ?_, y0.tr (y1.tr (y2.tr (y3.tr (y4.tr (y5.tr (y6.tr (y7.tr (y8.tr (y9.tr (y10.tr (y11.tr (y12.tr (y13.tr (y14.tr (y15.tr (y16.tr (y17.tr (y18.tr (y19))))))))))))))))))), hf⟩
  unfold M_feed M_feed_L28
  rw [hL.1, pw (x := (tp.length : Int) + 20) (by omega) (by omega), if_neg (by omega)]
  refine (jloop_l (s' := (1, g0)) t0).trans ((jloop_l (s' := (2, g1)) t1).trans ((jloop_l (s' := (3, g2)) t2).trans ((jloop_l (s' := (4, g3)) t3).trans ((jloop_l (s' := (5, g4)) t4).trans ((jloop_l (s' := (6, g5)) t5).trans ((jloop_l (s' := (7, g6)) t6).trans ((jloop_l (s' := (8, g7)) t7).trans ((jloop_l (s' := (9, g8)) t8).trans ((jloop_l (s' := (10, g9)) t9).trans ((jloop_l (s' := (11, g10)) t10).trans ((jloop_l (s' := (12, g11)) t11).trans ((jloop_l (s' := (13, g12)) t12).trans ((jloop_l (s' := (14, g13)) t13).trans ((jloop_l (s' := (15, g14)) t14).trans ((jloop_l (s' := (16, g15)) t15).trans ((jloop_l (s' := (17, g16)) t16).trans ((jloop_l (s' := (18, g17)) t17).trans ((jloop_l (s' := (19, g18)) t18).trans ((jloop_l (s' := (20, g19)) t19).trans (jloop_r ?_))))))))))))))))))))
  show M_feed_B28 g19 o a b c d e 20 = _
  unfold M_feed_B28
  rw [if_neg (by decide), hf.1, List.length_append]
  rfl
theorem m_feedNo {a b c d e : Int} (hL : CTa h o tp) (hl : ¬ tp.length ≤ 1580) : M_feed h o a b c d e = some (-1, jup h (o + 2) 0 (wr (h (o + 2) 0 + 1))) := by
  have := hL.2.1
  unfold M_feed
  rw [hL.1, pw (x := (tp.length : Int) + 20) (by omega) (by omega), if_pos (by omega), if_pos (by decide), if_pos (by decide)]
  rfl
theorem CTa.cutT {n : Nat} (hL : CTa h o tp) (hn : n ≤ tp.length) : TPf o h (jup h o 1 (n : Int)) ∧ CTa (jup h o 1 (n : Int)) o (tp.take n) := by
  have hl := hL.2.1
  refine ⟨⟨fun z z1 _ => jup_ne z1, fun f hf => ju_ne hf⟩, by rw [ju_eq, List.length_take, Nat.min_eq_left hn], by rw [List.length_take]; omega, fun j v hj => ?_⟩
  rw [jup_ne (by omega)]
  rw [List.getElem?_take] at hj
  split at hj
  · exact hL.2.2 j v hj
  · cases hj
theorem c_endT {n : Int} (hL : CTa h o0 tp) : (0 ≤ n ∧ n ≤ (tp.length : Int) → G_end h o0 n = some (1, jup h o0 1 n)) ∧ (¬ (0 ≤ n ∧ n ≤ (tp.length : Int)) → G_end h o0 n = G_end_p12 h o0) := by
  unfold G_end
  rw [hL.1]
  refine ⟨fun c => by rw [if_neg (by omega), if_neg (by omega)], fun c => ?_⟩
  by_cases c1 : n < 0
  · rw [if_pos c1]
  · rw [if_neg c1, if_pos (by omega)]
theorem m_endT {n : Int} (hL : CTa h o tp) : (0 ≤ n ∧ n ≤ (tp.length : Int) → M_end h o n = some (1, jup h o 1 n)) ∧ (¬ (0 ≤ n ∧ n ≤ (tp.length : Int)) → M_end h o n = some (0, jup h (o + 2) 0 (wr (h (o + 2) 0 + 1)))) := by
  have e : M_end_p12 h o = some (0, jup h (o + 2) 0 (wr (h (o + 2) 0 + 1))) := by
    unfold M_end_p12
    rw [if_pos (by decide), if_pos (by decide)]
    rfl
  unfold M_end
  rw [hL.1]
  refine ⟨fun c => by rw [if_neg (by omega), if_neg (by omega)], fun c => ?_⟩
  by_cases c1 : n < 0
  · rw [if_pos c1]; exact e
  · rw [if_neg c1, if_pos (by omega)]; exact e
theorem c_refuse {kk : Nat} (hk : kk < 7) : G_refuse h o0 (kk : Int) = some (-1, jup h (o0 + 3) kk (wr (h (o0 + 3) kk + 1))) := by
  unfold G_refuse
  rw [g_cellN hk, Option.bind_some, g_putN hk, Option.bind_some]
theorem c_deny {kk : Nat} (hk : kk < 7) : G_deny h o0 (kk : Int) = some (0, jup h (o0 + 3) kk (wr (h (o0 + 3) kk + 1))) := by
  unfold G_deny
  rw [c_refuse hk, Option.bind_some]
theorem c_endNo : G_end_p12 h o0 = some (0, jup h (o0 + 3) 0 (wr (h (o0 + 3) 0 + 1))) := by
  unfold G_end_p12
  rw [show G_deny h o0 0 = _ from c_deny (kk := 0) (by decide), Option.bind_some]
  dsimp only
  rw [if_pos (Or.inl rfl)]
theorem c_status {v : Int} {rf : Nat → Int} (hr : ∀ i, i < 7 → h (o0 + 3) i = rf i) : G_status h o0 v = some (if 0 ≤ v ∧ v < 7 then rf v.toNat else -1) := by
  unfold G_status
  rw [g_cell, Option.bind_some]
  by_cases c : 0 ≤ v ∧ v < 7
  · rw [if_pos (show 0 ≤ v ∧ v < ((7 : Nat) : Int) from c), if_pos c, hr _ (by omega)]
  · rw [if_neg (show ¬ (0 ≤ v ∧ v < ((7 : Nat) : Int)) from c), if_neg c]
theorem m_status {v : Int} {rf : Nat → Int} (hr : ∀ i, i < 7 → h (o + 2) i = rf i) : M_status h o v = some (if 0 ≤ v ∧ v < 7 then rf v.toNat else -1) := by
  unfold M_status
  rw [m_isIn, Option.bind_some]
  by_cases c : 0 ≤ v ∧ v < 7
  · rw [if_pos (show 0 ≤ v ∧ v ≤ 6 by omega), if_neg (by decide), if_pos (by omega), if_pos c, hr _ (by omega)]
  · rw [if_neg (show ¬ (0 ≤ v ∧ v ≤ 6) by omega), if_pos rfl, if_neg c]
end FED
/-! told: the tape -/
section FDT
variable {T : jT} {h h' : jH} {o0 o k pl pd ns bm blk len B : Nat} {p : spPl} {nz : Int} {X : spX} {g : spG} {b : Int} {tp : List Int}
theorem CAl.tpe (a : CAl T h o0 pl pd g) (f : TPf o0 h h') (t : CTa h' o0 tp) : CAl T h' o0 pl pd (tp, g.2) := by
  obtain ⟨a1, a2, a3, a4, a5, a6, a7, a8, a9⟩ := a
  exact ⟨a1, by rw [f.2 8 (by omega)]; exact a2, by rw [f.1 _ (by omega) (by omega)]; exact a3, t, a5.e (f.2 7 (by omega)) (f.1 _ (by omega) (by omega)), a6.e (f.2 3 (by omega)) (f.1 _ (by omega) (by omega)), by rw [f.2 5 (by omega)]; exact a7, by rw [f.1 _ (by omega) (by omega)]; exact a8, by rw [f.1 _ (by omega) (by omega)]; exact a9⟩
theorem MAl.tpe (a : MAl h o g) (f : TPf o h h') (t : CTa h' o tp) : MAl h' o (tp, g.2) := by
  obtain ⟨⟨a1, a2, a3⟩, a4, a5, a6, a7, a8, a9⟩ := a
  obtain ⟨b1, b2, b3, b4, b5, b6, b7, b8⟩ := a2
  have e : ∀ z, z ≠ o → z ≠ o + 1 → h' z = h z := f.1
  exact ⟨⟨a1.e (fun z z1 z2 => e z (by omega) (by omega)), ⟨b1.e (e _ (by omega) (by omega)), b2.e (e _ (by omega) (by omega)), b3.e (e _ (by omega) (by omega)), b4.e (e _ (by omega) (by omega)), b5.e (e _ (by omega) (by omega)), b6.e (e _ (by omega) (by omega)), b7.e (e _ (by omega) (by omega)), b8.e (e _ (by omega) (by omega))⟩, a3.e (fun z z1 z2 => e z (by omega) (by omega))⟩, t, a5.e (f.2 66 (by omega)) (e _ (by omega) (by omega)), a6.e (f.2 109 (by omega)) (e _ (by omega) (by omega)), by rw [f.2 75 (by omega)]; exact a7, by rw [f.2 7 (by omega)]; exact a8, by rw [f.2 8 (by omega)]; exact a9⟩
theorem CHt.tpe (a : CHt T h o0 pl pd ns bm blk len B p nz X g) (f : TPf o0 h h') (t : CTa h' o0 tp) : CSt2 T o0 pl pd ns bm blk len B p nz X (tp, g.2) h h' := by
  have hp := a.1.1.2.pos
  exact ⟨fun z hz => f.1 z (by omega) (by omega), a.1.tpe f t, a.2.1.off (fun z hz => f.1 z (by omega) (by omega)) (fun i hi => f.2 i (by omega)), by rw [f.1 _ (by omega) (by omega)]; exact a.2.2.1, by rw [f.1 _ (by omega) (by omega)]; exact a.2.2.2.1, by rw [f.1 _ (by omega) (by omega)]; exact a.2.2.2.2⟩
theorem MHt.tpe (a : MHt h o ns blk len p nz X g) (f : TPf o h h') (t : CTa h' o tp) : MSt2 o ns blk len p nz X (tp, g.2) h h' :=
  ⟨fun z hz => f.1 z (by omega) (by omega), a.1.tpe f t, a.2.1.off (fun z hz => f.1 z (by omega) (by omega)) (fun i hi => f.2 i (by omega)), by rw [f.1 _ (by omega) (by omega)]; exact a.2.2⟩
theorem wt_feed {v1 v2 v3 v4 v5 : Int} (n1 : jI32 v1) (n2 : jI32 v2) (n3 : jI32 v3) (n4 : jI32 v4) (n5 : jI32 v5) (ho : o = o0 + 505) (w : WRt T h o0 o k) : ∃ v h1 h2, G_feed h o0 v1 v2 v3 v4 v5 = some (v, h1) ∧ M_feed h1 o v1 v2 v3 v4 v5 = some (v, h2) ∧ WRt T h2 o0 o (k + 1) := by
  obtain ⟨pl, pd, ns, bm, blk, len, B, p, nz, X, g, b, C, M, t⟩ := w
  have hk := t.2.2.2.1
  have hg := t.1
  by_cases c : g.1.length ≤ 1580
  · obtain ⟨h1, c1, c2, c3⟩ := c_feedT n1 n2 n3 n4 n5 C.1.2.2.2.1 c
    have s1 := C.tpe c2 c3
    have M1 := M.hi (fun z hz => s1.1 z (by omega))
    obtain ⟨h2, m1, m2, m3⟩ := m_feedT n1 n2 n3 n4 n5 M1.1.2.1 c
    exact ⟨_, h1, h2, c1, m1, WRt.mk ho s1 (M1.tpe m2 m3) (t.xg hk ⟨hg.1.app (spBy20_ok _ _ _ _ _), hg.2⟩)⟩
  · obtain ⟨h1, c1, c2, c3⟩ := C.2.1.refuse (k := 0) (by decide)
    have s1 := C.f c2 c3
    have M1 := M.hi (fun z hz => s1.1 z (by omega))
    obtain ⟨m2, m3⟩ := M1.2.1.refuse (k := 0) (by decide)
    exact ⟨_, h1, _, by rw [c_feedNo C.1.2.2.2.1 c, show G_refuse h o0 0 = _ from c1]; rfl, m_feedNo M1.1.2.1 c, WRt.mk ho s1 (M1.f m2 m3) (t.x (spXk_rfu hk))⟩
theorem wt_end {v1 : Int} (ho : o = o0 + 505) (w : WRt T h o0 o k) : ∃ v h1 h2, G_end h o0 v1 = some (v, h1) ∧ M_end h1 o v1 = some (v, h2) ∧ WRt T h2 o0 o (k + 1) := by
  obtain ⟨pl, pd, ns, bm, blk, len, B, p, nz, X, g, b, C, M, t⟩ := w
  have hk := t.2.2.2.1
  have hg := t.1
  by_cases c : 0 ≤ v1 ∧ v1 ≤ (g.1.length : Int)
  · obtain ⟨n, rfl⟩ : ∃ n : Nat, v1 = n := ⟨v1.toNat, by omega⟩
    obtain ⟨c2, c3⟩ := C.1.2.2.2.1.cutT (n := n) (by omega)
    have s1 := C.tpe c2 c3
    have M1 := M.hi (fun z hz => s1.1 z (by omega))
    obtain ⟨m2, m3⟩ := M1.1.2.1.cutT (n := n) (by omega)
    exact ⟨_, _, _, (c_endT C.1.2.2.2.1).1 c, (m_endT M1.1.2.1).1 c, WRt.mk ho s1 (M1.tpe m2 m3) (t.xg hk ⟨hg.1.tk n, hg.2⟩)⟩
  · obtain ⟨h1, c1, c2, c3⟩ := C.2.1.deny (k := 0) (by decide)
    have s1 := C.f c2 c3
    have M1 := M.hi (fun z hz => s1.1 z (by omega))
    obtain ⟨m2, m3⟩ := M1.2.1.refuse (k := 0) (by decide)
    have e1 : G_end_p12 h o0 = some (0, h1) := by
      unfold G_end_p12
      rw [show G_deny h o0 0 = _ from c1, Option.bind_some]
      dsimp only
      rw [if_pos (Or.inl rfl)]
    exact ⟨_, h1, _, by rw [(c_endT C.1.2.2.2.1).2 c]; exact e1, (m_endT M1.1.2.1).2 c, WRt.mk ho s1 (M1.f m2 m3) (t.x (spXk_rfu hk))⟩
theorem wt_fault {v1 : Int} (w : WRt T h o0 o k) : ∃ v, G_fault h o0 v1 = some v ∧ M_fault h o v1 = some v ∧ WRt T h o0 o (k + 1) := by
  have w2 := w.up
  obtain ⟨pl, pd, ns, bm, blk, len, B, p, nz, X, g, b, C, M, t⟩ := w
  refine ⟨if v1 = 0 then g.2.2.2.2.1 else if v1 = 1 then g.2.2.2.2.2 else -1, ?_, ?_, w2⟩
  · unfold G_fault
    rw [C.1.2.2.2.2.2.2.2.1, C.1.2.2.2.2.2.2.2.2]
    repeat' split
    all_goals rfl
  · unfold M_fault
    rw [M.1.2.2.2.2.2.1, M.1.2.2.2.2.2.2]
    repeat' split
    all_goals rfl
theorem wt_status {v1 : Int} (w : WRt T h o0 o k) : ∃ v, G_status h o0 v1 = some v ∧ M_status h o v1 = some v ∧ WRt T h o0 o (k + 1) := by
  have w2 := w.up
  obtain ⟨pl, pd, ns, bm, blk, len, B, p, nz, X, g, b, C, M, t⟩ := w
  exact ⟨_, c_status C.2.1.1.2.2.2.2.2.2, m_status M.2.1.1.2.2.2.2.2, w2⟩
end FDT
