/-! a call after a journal was told: ask, journal; journal ahead of any -/
def spDAsk (ns blk len : Nat) (tp : List Int) (X : spX) : Int := match spQry tp with
  | .inl _ => -1000000000000000
  | .inr (kd, K) => spAns (fun i => spTold (spQe blk len X.1 i) K) kd ns
def spGAsk (g : spG) : spG := match spQry g.1 with
  | .inl e => ([], g.2.1, g.2.2.1, g.2.2.2.1, e.1, (e.2 : Int))
  | .inr _ => ([], g.2.1, g.2.2.1, g.2.2.2.1, 0, -1)
section ASK
variable {T : jT} {h h' : jH} {o0 o k pl pd ns bm blk len B : Nat} {p : spPl} {nz : Int} {X : spX} {g : spG} {b : Int} {rf : Nat → Int}
theorem CHt.ask (C : CHt T h o0 pl pd ns bm blk len B p nz X g) (hk : spXk ns blk len b X) (hg : spGok g) : ∃ h', G_ask T h o0 = some (spDAsk ns blk len g.1 X, h') ∧ CSt2 T o0 pl pd ns bm blk len B p nz X (spGAsk g) h h' := by
  have hp := C.1.1.2.pos
  have hT := C.1.1.1
  have hL := C.1.2.2.2.1
  have C0 := C.tape0
  obtain ⟨g0, hg0⟩ : ∃ g0 : jH, g0 = jup h o0 1 0 := ⟨_, rfl⟩
  have go0 : ∀ z, z ≠ o0 → g0 z = h z := fun z hz => by rw [hg0, jup_ne hz]
  rw [← hg0] at C0
  obtain ⟨h1, v, a1, a2, a3, a4⟩ := c_readQ (T := T) (h := g0) (P := o0 + 17) (tq := o0 + 1) (tp := g.1) (fo := o0 + 30) (by omega) hT.2.2.2.1 hT.2.2.2.2 (by omega) (by omega) hL.2.1 hg.1 (fun j v hv => by rw [go0 _ (by omega)]; exact hL.2.2 j v hv)
  have hst : G_ask T h o0 = (if v = 0 then some ((-1000000000000000), h1) else Option.bind (G_answer h1 o0 (h1 (o0 + 17) 2) (o0 + 30)) (fun b6 => some (b6.1, b6.2))) := by
    unfold G_ask G_takeTape
    rw [Option.bind_some]
    dsimp only
    rw [← hg0, C0.2.1.told hk.dim, Option.bind_some, if_neg (by decide), hL.1, a1, Option.bind_some]
  -- the class's half behind any heap that keeps what reading and answering keep
  have key : ∀ (h2 : jH) (f1 f2 : Int), (∀ z, z ≠ o0 + 17 → z ≠ o0 + 30 → z ≠ o0 + 31 → z ≠ o0 + 32 → z ≠ o0 + 33 → z ≠ o0 + 80 → h2 z = g0 z) → h2 (o0 + 17) 0 = g0 (o0 + 17) 0 → h2 (o0 + 17) 3 = f1 → h2 (o0 + 17) 4 = f2 → CSt2 T o0 pl pd ns bm blk len B p nz X ([], g.2.1, g.2.2.1, g.2.2.2.1, f1, f2) h h2 := by
    intro h2 f1 f2 e e0 e3 e4
    have e' : ∀ z, (z < o0 + 17 ∨ (o0 + 17 < z ∧ z < o0 + 30) ∨ (o0 + 33 < z ∧ z < o0 + 80) ∨ o0 + 80 < z) → h2 z = g0 z := fun z hz => e z (by omega) (by omega) (by omega) (by omega) (by omega) (by omega)
    obtain ⟨b1, b2, b3, b4, b5, b6, b7, b8, b9⟩ := C0.1
    have eo : h2 o0 = g0 o0 := e' o0 (by omega)
    refine ⟨fun z hz => by rw [e' z (by omega), go0 z (by omega)], ⟨b1, by rw [eo]; exact b2, by rw [e0]; exact b3, b4.e (by rw [eo]) (e' _ (by omega)), b5.e (by rw [eo]) (e' _ (by omega)), b6.e (by rw [eo]) (e' _ (by omega)), by rw [eo]; exact b7, e3, e4⟩, ?_, ?_, ?_, ?_⟩
    · exact C0.2.1.gen (rf := X.2.2) (fun z hz => by
        have h1 := C.1.1.2
        rcases h1 with ⟨q1, q2⟩ | ⟨q1, q2⟩ <;> exact e' z (by omega)) (fun f _ => by rw [eo]) (fun i hi => by rw [e' _ (by omega)]; exact C0.2.1.1.2.2.2.2.2.2 i hi)
    · have h1 := C.1.1.2
      rw [show h2 pl = g0 pl from by rcases h1 with ⟨q1, q2⟩ | ⟨q1, q2⟩ <;> exact e' _ (by omega)]; exact C0.2.2.1
    · have h1 := C.1.1.2
      rw [show h2 pl = g0 pl from by rcases h1 with ⟨q1, q2⟩ | ⟨q1, q2⟩ <;> exact e' _ (by omega)]; exact C0.2.2.2.1
    · have h1 := C.1.1.2
      rw [show h2 pl = g0 pl from by rcases h1 with ⟨q1, q2⟩ | ⟨q1, q2⟩ <;> exact e' _ (by omega)]; exact C0.2.2.2.2
  unfold spDAsk spGAsk
  cases hq : spQry g.1 with
  | inl e =>
    obtain ⟨rfl, hb⟩ := a3 e hq
    rw [if_pos rfl] at hst
    exact ⟨h1, hst, key h1 _ _ (fun z z1 z2 z3 _ _ _ => a2.1 z z1 z2 z3) a2.2 hb.1 hb.2⟩
  | inr x =>
    obtain ⟨kd, K⟩ := x
    obtain ⟨rfl, x2, x3, x4, x5⟩ := a4 kd K hq
    obtain ⟨ok1, ok2⟩ := spQry_ok hq
    rw [if_neg (by decide), x2] at hst
    obtain ⟨c, n, q1, q2, q3, q4, q5, q6, q7⟩ := C0.2.1.2
    have s1 : CS h1 (o0 + 35) ns blk len n X.1 := q5.eq (fun z z1 z2 => a2.1 z (by omega) (by omega) (by omega))
    obtain ⟨h2, w1, w2⟩ := c_ansL (b := b) (o0 := o0) (fo := o0 + 30) rfl ok1 hk.1.1 ok2 ns 0 h1 (by omega) s1 x5
    have w1' : G_answer h1 o0 (kd : Int) (o0 + 30) = some (spAns (fun i => spTold (spQe blk len X.1 i) K) kd ns, h2) := w1
    rw [w1', Option.bind_some] at hst
    refine ⟨h2, hst, key h2 0 (-1) (fun z z1 z2 z3 z4 z5 z6 => by rw [w2 z z2 (by omega) (by omega) z6, a2.1 z z1 z2 z3]) (by rw [w2 _ (by omega) (by omega) (by omega) (by omega)]; exact a2.2) (by rw [w2 _ (by omega) (by omega) (by omega) (by omega)]; exact x3) (by rw [w2 _ (by omega) (by omega) (by omega) (by omega)]; exact x4)⟩
theorem MHt.ask (M : MHt h o ns blk len p nz X g) (hk : spXk ns blk len b X) (hg : spGok g) : ∃ h', M_ask h o = some (spDAsk ns blk len g.1 X, h') ∧ MSt2 o ns blk len p nz X (spGAsk g) h h' := by
  obtain ⟨⟨w1, w2, w3⟩, a4, a5, a6, a7, a8, a9⟩ := M.1
  obtain ⟨h1, b1, b2, b3, b4⟩ := m_ask0 M.2.1.told a4 hg.1 w1 w3
  have key : ∀ (h2 : jH) (f1 f2 : Int), (∀ z, z ≠ o → z ≠ o + 37 → z ≠ o + 65 → z ≠ o + 66 → z ≠ o + 67 → h2 z = h z) → (∀ f, f = 43 ∨ f = 52 ∨ f = 53 ∨ f = 56 ∨ f = 66 ∨ f = 73 ∨ f = 74 ∨ f = 75 ∨ f = 109 → h2 o f = h o f) → h2 o 1 = 0 → h2 o 7 = f1 → h2 o 8 = f2 → MSt2 o ns blk len p nz X ([], g.2.1, g.2.2.1, g.2.2.2.1, f1, f2) h h2 := by
    intro h2 f1 f2 e ef e1 e7 e8
    have e' : ∀ z, (z < o ∨ (o < z ∧ z < o + 37) ∨ (o + 37 < z ∧ z < o + 65) ∨ o + 67 < z) → h2 z = h z := fun z hz => e z (by omega) (by omega) (by omega) (by omega) (by omega)
    obtain ⟨c1, c2, c3, c4, c5, c6, c7, c8⟩ := w2
    refine ⟨fun z hz => e' z (by omega), ⟨⟨w1.e (fun z z1 z2 => e' z (by omega)), ⟨c1.e (e' _ (by omega)), c2.e (e' _ (by omega)), c3.e (e' _ (by omega)), c4.e (e' _ (by omega)), c5.e (e' _ (by omega)), c6.e (e' _ (by omega)), c7.e (e' _ (by omega)), c8.e (e' _ (by omega))⟩, w3.e (fun z z1 z2 => e' z (by omega))⟩, CTa.nil e1, a5.e (ef 66 (by omega)) (e' _ (by omega)), a6.e (ef 109 (by omega)) (e' _ (by omega)), by rw [ef 75 (by omega)]; exact a7, e7, e8⟩, ?_, by rw [e' _ (by omega)]; exact M.2.2⟩
    exact M.2.1.off (fun z hz => e' z (by omega)) (fun f hf => ef f (by omega))
  unfold spDAsk spGAsk
  cases hq : spQry g.1 with
  | inl e =>
    obtain ⟨x1, x2, x3⟩ := b3 e hq
    exact ⟨h1, x1, key h1 _ _ (fun z z1 _ z3 z4 _ => b1.1 z z1 z3 z4) (fun f hf => b1.2 f (by omega) (by omega) (by omega) (by omega) (by omega) (by omega) (by omega) (by omega) (by omega) (by omega) (by omega) (by omega) (by omega) (by omega)) b2 x2 x3⟩
  | inr x =>
    obtain ⟨kd, K⟩ := x
    obtain ⟨x1, x2, x3, x4, x5, x6⟩ := b4 kd K hq
    obtain ⟨ok1, ok2⟩ := spQry_ok hq
    obtain ⟨x0, hx0⟩ : ∃ x0 : Int, x0 = (if (kd : Int) < 2 then -1 else 0) := ⟨_, rfl⟩
    rw [← hx0] at x1
    obtain ⟨h2, hh2⟩ : ∃ h2 : jH, h2 = jup (jup h1 o 106 x0) o 107 1 := ⟨_, rfl⟩
    have go2 : ∀ z, z ≠ o → h2 z = h1 z := fun z hz => by rw [hh2, jup_ne hz, jup_ne hz]
    have gf2 : ∀ f, f ≠ 106 → f ≠ 107 → h2 o f = h1 o f := fun f f1 f2 => by rw [hh2, ju_ne f2, ju_ne f1]
    have hS : MS h o ns blk len X.1.2.2.2.1.2 X.1 := M.2.1.2.elim (fun m hm => hm.2.2.2.2.2)
    have s2 : MS h2 o ns blk len X.1.2.2.2.1.2 X.1 := hS.eq (by rw [go2 _ (by omega), b1.1 _ (by omega) (by omega) (by omega)]) (by rw [go2 _ (by omega), b1.1 _ (by omega) (by omega) (by omega)])
    obtain ⟨h3, y1, y2⟩ := m_ansL (o := o) (kd := kd) (s := X.1) (K := K) ok1 hk.1.1 ok2 x4 ns 0 h2 (by omega) s2 (by rw [gf2 99 (by omega) (by omega)]; exact x5) (fun i c hc => by rw [go2 _ (by omega)]; exact x6 i c hc) (fun c => by
      rw [hh2, ju_ne (by decide), ju_eq, hx0]
      show _ = spAc0 kd
      unfold spAc0
      by_cases c2 : kd < 2
      · rw [if_pos (by omega), if_pos c2]
      · rw [if_neg (by omega), if_neg c2, if_pos c]) (fun _ => Or.inl ⟨rfl, by rw [hh2, ju_eq]; decide⟩)
    have hM : M_ask h o = some (spAns (fun i => spTold (spQe blk len X.1 i) K) kd ns, h3) := by
      rw [x1]
      unfold M_ask_p173
      rw [← hh2]
      exact y1
    refine ⟨h3, hM, key h3 0 (-1) (fun z z1 z2 z3 z4 z5 => by rw [y2.1 z z1 z2 z5, go2 z z1, b1.1 z z1 z3 z4]) (fun f hf => by rw [y2.2 f (by omega) (by omega) (by omega) (by omega) (by omega), gf2 f (by omega) (by omega), b1.2 f (by omega) (by omega) (by omega) (by omega) (by omega) (by omega) (by omega) (by omega) (by omega) (by omega) (by omega) (by omega) (by omega) (by omega)]) (by rw [y2.2 1 (by omega) (by omega) (by omega) (by omega) (by omega), gf2 1 (by omega) (by omega)]; exact b2) (by rw [y2.2 7 (by omega) (by omega) (by omega) (by omega) (by omega), gf2 7 (by omega) (by omega)]; exact x2) (by rw [y2.2 8 (by omega) (by omega) (by omega) (by omega) (by omega), gf2 8 (by omega) (by omega)]; exact x3)⟩
theorem spGAsk_ok (hg : spGok g) : spGok (spGAsk g) := by
  unfold spGAsk
  split
  · exact ⟨fun v hv => absurd hv List.not_mem_nil, hg.2.1, hg.2.2.1, hg.2.2.2⟩
  · exact ⟨fun v hv => absurd hv List.not_mem_nil, hg.2.1, hg.2.2.1, hg.2.2.2⟩
theorem wt_ask (ho : o = o0 + 505) (w : WRt T h o0 o k) : ∃ v h1 h2, G_ask T h o0 = some (v, h1) ∧ M_ask h1 o = some (v, h2) ∧ WRt T h2 o0 o (k + 1) := by
  obtain ⟨pl, pd, ns, bm, blk, len, B, p, nz, X, g, b, C, M, t⟩ := w
  have hk := t.2.2.2.1
  have hg := t.1
  obtain ⟨h1, c1, s1⟩ := C.ask hk hg
  have M1 := M.hi (fun z hz => s1.1 z (by omega))
  obtain ⟨h2, m1, s2⟩ := M1.ask hk hg
  exact ⟨_, h1, h2, c1, m1, WRt.mk ho s1 s2 (t.xg hk (spGAsk_ok hg))⟩
/-! journal -/
/-- behind a refused text -/
def spGJn (g : spG) (e : Int × Nat) : spG := ([], g.2.1, g.2.2.1, g.2.2.2.1, e.1, (e.2 : Int))
/-- behind a text that stands -/
def spGJy (g : spG) : spG := ([], [], g.2.2.1, g.2.2.2.1, 0, -1)
theorem CAl.jn {e : Int × Nat} (a : CAl T h o0 pl pd g) (f : CJn o0 pd h h') (h1 : h' o0 1 = 0) (hb : PBad (o0 + 17) h' e) : CAl T h' o0 pl pd (spGJn g e) := by
  have hp := a.1.2.pos
  obtain ⟨a1, a2, a3, a4, a5, a6, a7, a8, a9⟩ := a
  exact ⟨a1, by rw [f.2.1 8 (by omega)]; exact a2, by rw [f.2.2]; exact a3, CTa.nil h1, a5.e (f.2.1 7 (by omega)) (f.1 _ (by omega) (by omega) (by omega) (by omega)), a6.e (f.2.1 3 (by omega)) (f.1 _ (by omega) (by omega) (by omega) (by omega)), by rw [f.2.1 5 (by omega)]; exact a7, hb.1, hb.2⟩
theorem MAl.jn {e : Int × Nat} (a : MAl h o g) (f : MJn o h h') (h1 : h' o 1 = 0) (h7 : h' o 7 = e.1) (h8 : h' o 8 = (e.2 : Int)) : MAl h' o (spGJn g e) := by
  obtain ⟨⟨a1, a2, a3⟩, a4, a5, a6, a7, a8, a9⟩ := a
  obtain ⟨b1, b2, b3, b4, b5, b6, b7, b8⟩ := a2
  have e' : ∀ z, (z < o ∨ (o < z ∧ z < o + 2) ∨ (o + 2 < z ∧ z < o + 28) ∨ (o + 32 < z ∧ z < o + 65) ∨ o + 66 < z) → h' z = h z := fun z hz => f.1 z (by omega) (by omega) (by omega) (by omega) (by omega) (by omega) (by omega) (by omega) (by omega)
  exact ⟨⟨a1.e (fun z z1 z2 => e' z (by omega)), ⟨b1.e (e' _ (by omega)), b2.e (e' _ (by omega)), b3.e (e' _ (by omega)), b4.e (e' _ (by omega)), b5.e (e' _ (by omega)), b6.e (e' _ (by omega)), b7.e (e' _ (by omega)), b8.e (e' _ (by omega))⟩, a3.e (fun z z1 z2 => e' z (by omega))⟩, CTa.nil h1, a5.e (f.2.1 66 (by decide) (by decide) (by decide) (by decide) (by decide)) (e' _ (by omega)), a6.e (f.2.1 109 (by decide) (by decide) (by decide) (by decide) (by decide)) (e' _ (by omega)), by rw [f.2.1 75 (by decide) (by decide) (by decide) (by decide) (by decide)]; exact a7, h7, h8⟩
theorem CHt.jn {e : Int × Nat} (C : CHt T h o0 pl pd ns bm blk len B p nz X g) (f : CJn o0 pd h h') (h1 : h' o0 1 = 0) (hr : ∀ i, h' (o0 + 3) i = (if i = 1 then wr (h (o0 + 3) 1 + 1) else h (o0 + 3) i)) (hb : PBad (o0 + 17) h' e) : CSt2 T o0 pl pd ns bm blk len B p nz (spRfu 1 X) (spGJn g e) h h' := by
  have hp := C.1.1.2.pos
  have hrf := C.2.1.1.2.2.2.2.2.2
  have e' : ∀ z, (pl ≤ z ∧ z ≤ pl + 8) ∨ (o0 + 35 ≤ z) → h' z = h z := fun z hz => f.1 z (by omega) (by omega) (by omega) (by omega)
  refine ⟨fun z hz => e' z (by omega), C.1.jn f h1 hb, ?_, by rw [e' _ (by omega)]; exact C.2.2.1, by rw [e' _ (by omega)]; exact C.2.2.2.1, by rw [e' _ (by omega)]; exact C.2.2.2.2⟩
  refine C.2.1.gen (rf := pu X.2.2 1 (wr (X.2.2 1 + 1))) (fun z hz => e' z (by omega)) (fun i hi => f.2.1 i (by omega)) (fun i hi => ?_)
  rw [hr, hrf 1 (by decide), hrf i hi]
  rfl
theorem MHt.jn {e : Int × Nat} (M : MHt h o ns blk len p nz X g) (f : MJn o h h') (h1 : h' o 1 = 0) (hr : ∀ i, h' (o + 2) i = (if i = 1 then wr (h (o + 2) 1 + 1) else h (o + 2) i)) (h7 : h' o 7 = e.1) (h8 : h' o 8 = (e.2 : Int)) : MSt2 o ns blk len p nz (spRfu 1 X) (spGJn g e) h h' := by
  have hrf := M.2.1.1.2.2.2.2.2
  refine ⟨fun z hz => f.1 z (by omega) (by omega) (by omega) (by omega) (by omega) (by omega) (by omega) (by omega) (by omega), M.1.jn f h1 h7 h8, ?_, by rw [f.2.2.1 9 (by omega)]; exact M.2.2⟩
  refine M.2.1.gen (rf := pu X.2.2 1 (wr (X.2.2 1 + 1))) (fun i hi => f.2.2.1 i (by omega)) (fun i hi => ⟨f.2.2.2.1 i hi, f.2.2.2.2.1 i hi⟩) (fun i hi => f.2.2.2.2.2 i hi) (f.1 _ (by omega) (by omega) (by omega) (by omega) (by omega) (by omega) (by omega) (by omega) (by omega)) (f.1 _ (by omega) (by omega) (by omega) (by omega) (by omega) (by omega) (by omega) (by omega) (by omega)) (fun i hi => f.2.1 i (by omega) (by omega) (by omega) (by omega) (by rcases hi with e | e | e | e | e | e <;> subst e <;> decide)) (fun i hi => ?_)
  rw [hr, hrf 1 (by decide), hrf i hi]
  rfl
/-- a journal stands: the class's half, whatever was before -/
theorem CAl.jy {a b c : Int} {q : spPn} (A : CAl T h o0 pl pd g) (hx : ∃ c : Nat, h o0 14 = (c : Int) ∧ c < 20) (hrf : ∀ i, i < 7 → h (o0 + 3) i = rf i) (hd : spDim a.toNat c.toNat (b * c).toNat) (ha : 0 ≤ a ∧ 0 ≤ b ∧ 0 ≤ c) (f : CJy o0 pd h h') (f1 : h' o0 1 = 0 ∧ h' o0 7 = 0 ∧ h' o0 8 = (pd : Int) ∧ h' o0 13 = 0) (f2 : h' (o0 + 17) 0 = (pl : Int) ∧ h' (o0 + 17) 3 = 0 ∧ h' (o0 + 17) 4 = -1) (f3 : h' pd 0 = a ∧ h' pd 1 = b ∧ h' pd 2 = c ∧ h' pd 3 = q.2.2.1) (f4 : CPl h' pd (spPlOf a b c q)) (f5 : h' (o0 + 35) 0 = (pd : Int)) (f6 : CS h' (o0 + 35) a.toNat c.toNat (b * c).toNat 0 (spPuts c.toNat (b * c).toNat q.2.2.2 spSt0)) : (∀ z, o0 + 505 ≤ z → h' z = h z) ∧ CHt T h' o0 pd pl a.toNat b.toNat c.toNat (b * c).toNat B (spPlOf a b c q) q.2.2.1 (spPuts c.toNat (b * c).toNat q.2.2.2 spSt0, [], rf) (spGJy g) := by
  have hp := A.1.2.pos
  obtain ⟨cc, hx1, hx2⟩ := hx
  obtain ⟨a1, a2, a3, a4, a5, a6, a7, a8, a9⟩ := A
  have hw := spPuts_w (blk := c.toNat) (len := (b * c).toNat) q.2.2.2 spSt0
  refine ⟨fun z hz => f.1 z (by omega) (by omega) (by omega) (by omega), ⟨⟨a1.1, a1.2.sw⟩, f1.2.2.1, f2.1, CTa.nil f1.1, ⟨f1.2.1, Nat.zero_le _, fun i e hi => by cases hi⟩, a6.e (f.2 3 (by omega) (by omega) (by omega) (by omega)) (f.1 _ (by omega) (by omega) (by omega) (by omega)), by rw [f.2 5 (by omega) (by omega) (by omega) (by omega)]; exact a7, f2.2.1, f2.2.2⟩, ⟨⟨a1.1.1, (a1.1.pl a1.2).2, hp.2.1, f1.2.2.1, by rw [f3.1]; omega, f4, fun i hi => by rw [f.1 _ (by omega) (by omega) (by omega) (by omega)]; exact hrf i hi⟩, cc, 0, by rw [f.2 14 (by omega) (by omega) (by omega) (by omega)]; exact hx1, hx2, by rw [f1.2.2.2]; rfl, ⟨Nat.zero_le _, fun j x hj => by cases hj⟩, f6, ?_, f5⟩, by rw [f3.2.1]; omega, by rw [f3.2.2.1]; omega, f3.2.2.2⟩
  show 0 + (spPuts c.toNat (b * c).toNat q.2.2.2 spSt0).2.2.2.1.1.length ≤ B
  rw [hw]
  exact Nat.zero_le _
theorem MAl.jy {a b c : Int} {q : spPn} (A : MAl h o g) (h52 : h o 52 = -1 ∧ h o 56 = 0 ∧ jI32 (h o 53)) (hx : ∃ m : Nat, h o 74 = (m : Int) ∧ m < 20) (hrf : ∀ i, i < 7 → h (o + 2) i = rf i) (f : MJy o h h') (f1 : h' o 1 = 0 ∧ h' o 7 = 0 ∧ h' o 8 = -1 ∧ h' o 43 = 1 ∧ h' o 66 = 0 ∧ h' o 73 = 0) (f2 : h' (o + 28) 9 = q.2.2.1) (f3 : MPl h' o (spPlOf a b c q)) (f4 : MS h' o a.toNat c.toNat (b * c).toNat [] (spPuts c.toNat (b * c).toNat q.2.2.2 spSt0)) : MSt2 o a.toNat c.toNat (b * c).toNat (spPlOf a b c q) q.2.2.1 (spPuts c.toNat (b * c).toNat q.2.2.2 spSt0, [], rf) (spGJy g) h h' := by
  obtain ⟨m, hx1, hx2⟩ := hx
  obtain ⟨⟨a1, a2, a3⟩, a4, a5, a6, a7, a8, a9⟩ := A
  obtain ⟨b1, b2, b3, b4, b5, b6, b7, b8⟩ := a2
  have hw := spPuts_w (blk := c.toNat) (len := (b * c).toNat) q.2.2.2 spSt0
  have e' : ∀ z, (z < o ∨ (o < z ∧ z < o + 28) ∨ (o + 33 < z ∧ z < o + 65) ∨ o + 66 < z) → h' z = h z := fun z hz => f.1 z (by omega) (by omega) (by omega) (by omega) (by omega) (by omega) (by omega) (by omega) (by omega)
  have ef : ∀ i, i = 52 ∨ i = 53 ∨ i = 56 ∨ i = 74 ∨ i = 75 ∨ i = 109 → h' o i = h o i := fun i hi => f.2 i (by omega) (by omega) (by omega) (by omega) (by omega) (by omega) (by omega) (by rcases hi with e | e | e | e | e | e <;> subst e <;> decide)
  refine ⟨fun z hz => e' z (by omega), ⟨⟨a1.e (fun z z1 z2 => e' z (by omega)), ⟨b1.e (e' _ (by omega)), b2.e (e' _ (by omega)), b3.e (e' _ (by omega)), b4.e (e' _ (by omega)), b5.e (e' _ (by omega)), b6.e (e' _ (by omega)), b7.e (e' _ (by omega)), b8.e (e' _ (by omega))⟩, a3.e (fun z z1 z2 => e' z (by omega))⟩, CTa.nil f1.1, ⟨f1.2.2.2.2.1, Nat.zero_le _, fun i e hi => by cases hi⟩, a6.e (ef 109 (by omega)) (e' _ (by omega)), by rw [ef 75 (by omega)]; exact a7, f1.2.1, f1.2.2.1⟩, ⟨⟨f1.2.2.2.1, by rw [ef 52 (by omega)]; exact h52.1, by rw [ef 56 (by omega)]; exact h52.2.1, by rw [ef 53 (by omega)]; exact h52.2.2, f3, fun i hi => by rw [e' _ (by omega)]; exact hrf i hi⟩, m, by rw [ef 74 (by omega)]; exact hx1, hx2, by rw [f1.2.2.2.2.2]; rfl, Nat.zero_le _, fun j x hj => (by cases hj), ?_⟩, f2⟩
  show MS h' o a.toNat c.toNat (b * c).toNat (spPuts c.toNat (b * c).toNat q.2.2.2 spSt0).2.2.2.1.2 (spPuts c.toNat (b * c).toNat q.2.2.2 spSt0)
  rw [hw]
  exact f4
/-- the data behind a journal that stands -/
theorem TDk.jy {a b c : Int} {n : Nat} {q : spPn} (hg : spGok g) (he : spJour g.1 = .inr ((a, b, c), n, q)) : spDim a.toNat c.toNat (b * c).toNat ∧ (0 ≤ a ∧ 0 ≤ b ∧ 0 ≤ c) ∧ TDk a.toNat b.toNat c.toNat (b * c).toNat 0 (spPlOf a b c q) (spPuts c.toNat (b * c).toNat q.2.2.2 spSt0, [], rf) (spGJy g) 66200 k := by
  obtain ⟨⟨o1, o2, o3⟩, o4, o5, o6⟩ := spJour_ok he
  have el : (b * c).toNat = b.toNat * c.toNat := by
    obtain ⟨x, rfl⟩ : ∃ x : Nat, b = x := ⟨b.toNat, by omega⟩
    obtain ⟨y, rfl⟩ : ∃ y : Nat, c = y := ⟨c.toNat, by omega⟩
    rw [← Int.natCast_mul, Int.toNat_natCast, Int.toNat_natCast, Int.toNat_natCast]
  have hd : spDim a.toNat c.toNat (b * c).toNat := ⟨by omega, by omega, by omega, by omega, b.toNat, by omega, by omega, el⟩
  have hl := o4.2.2.2.1
  have ok0 : spOK a.toNat c.toNat (b * c).toNat 0 spSt0 := ⟨spInv0 hd ⟨by decide, by decide⟩, spHal_st0⟩
  have ok1 := spPuts_ok q.2.2.2 spSt0 0 (by omega) ok0
  refine ⟨hd, by omega, ⟨fun v hv => absurd hv List.not_mem_nil, fun v hv => absurd hv List.not_mem_nil, hg.2.2.1, hg.2.2.2⟩, el.symm, ⟨rfl, rfl, rfl, o6⟩, ⟨⟨spInv_mono (by omega) (by decide) ok1.1, ok1.2⟩, fun x hx => absurd hx List.not_mem_nil⟩, by decide, by omega, Nat.zero_le _⟩
theorem spGJn_ok {e : Int × Nat} (hg : spGok g) : spGok (spGJn g e) := ⟨fun v hv => absurd hv List.not_mem_nil, hg.2.1, hg.2.2.1, hg.2.2.2⟩
theorem wt_journal (ho : o = o0 + 505) (w : WRt T h o0 o k) : ∃ v h1 h2, G_journal T h o0 = some (v, h1) ∧ M_journal h1 o = some (v, h2) ∧ WRt T h2 o0 o (k + 1) := by
  obtain ⟨pl, pd, ns, bm, blk, len, B, p, nz, X, g, b, C, M, t⟩ := w
  have hk := t.2.2.2.1
  have hg := t.1
  have hp := C.1.1.2.pos
  obtain ⟨j1, j2⟩ := c_journal C.1.1.1 C.1.1.2 C.1.2.1 C.1.2.2.1 hg.1 C.1.2.2.2.1
  cases hq : spJour g.1 with
  | inl e =>
    obtain ⟨h1, c1, c2, c3, c4, c5⟩ := j1 e hq
    have s1 := C.jn c2 c3 c4 c5
    have M1 := M.hi (fun z hz => s1.1 z (by omega))
    obtain ⟨h2, m1, m2, m3, m4, m5, m6⟩ := (m_journal M1.1.2.1 hg.1 M1.1.1.1 M1.1.1.2.1).1 e hq
    exact ⟨_, h1, h2, c1, m1, WRt.mk ho s1 (M1.jn m2 m3 m4 m5 m6) (t.xg (spXk_rfu hk) (spGJn_ok hg))⟩
  | inr x =>
    obtain ⟨⟨a, b, c⟩, n, q⟩ := x
    obtain ⟨d1, d2, d3⟩ := TDk.jy (k := k + 1) (rf := X.2.2) hg hq
    obtain ⟨h1, c1, c2, c3, c4, c5, c6, c7, c8⟩ := j2 a b c n q hq
    have hcx : ∃ c : Nat, h o0 14 = (c : Int) ∧ c < 20 := C.2.1.2.elim (fun c hc => hc.elim (fun n hn => ⟨c, hn.1, hn.2.1⟩))
    obtain ⟨s0, s1⟩ := C.1.jy (B := 0) hcx C.2.1.1.2.2.2.2.2.2 d1 d2 c2 c3 c4 c5 c6 c7 c8
    have M1 := M.hi (fun z hz => s0 z (by omega))
    obtain ⟨h2, m1, m2, m3, m4, m5, m6⟩ := (m_journal M1.1.2.1 hg.1 M1.1.1.1 M1.1.1.2.1).2 a b c n q hq
    have hmx : ∃ m : Nat, h1 o 74 = (m : Int) ∧ m < 20 := M1.2.1.2.elim (fun m hm => ⟨m, hm.1, hm.2.1⟩)
    have s2 := M1.1.jy (rf := X.2.2) ⟨M1.2.1.1.2.1, M1.2.1.1.2.2.1, M1.2.1.1.2.2.2.1⟩ hmx M1.2.1.1.2.2.2.2.2 m2 m3 m4 m5 m6
    exact ⟨_, h1, h2, c1, m1, WRt.mk ho ⟨s0, s1⟩ s2 d3⟩
end ASK
