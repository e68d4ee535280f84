/-! the class reads a journal's text: statements -/
/-- the plan's draft stands for p -/
def PDr (h : jH) (pl : Nat) (p : spPn) : Prop := (h pl 5 = (match p.1 with | none => 0 | some _ => 1) ∧ CFm h (pl + 1) (p.1.getD spCl0)) ∧ (h pl 6 = (match p.2.1 with | none => 0 | some _ => 1) ∧ CFm h (pl + 5) (p.2.1.getD spTk0)) ∧ h pl 3 = p.2.2.1 ∧ h pl 12 = (p.2.2.2.length : Int) ∧ ∀ (i : Nat) (v : Int × Int × Int), p.2.2.2[i]? = some v → h (pl + 9) i = v.1 ∧ h (pl + 10) i = v.2.1 ∧ h (pl + 11) i = v.2.2
/-- what reading a journal's text may change -/
def PFj (P pl : Nat) (h h' : jH) : Prop := (∀ z, z ≠ P → (z < pl ∨ pl + 11 < z) → h' z = h z) ∧ (∀ f, f ≠ 3 → f ≠ 4 → f ≠ 7 → f ≠ 8 → f ≠ 9 → f ≠ 10 → f ≠ 11 → h' P f = h P f) ∧ ∀ f, f < 3 → h' pl f = h pl f
theorem PFj.tr {P pl : Nat} {h h1 h2 : jH} (a : PFj P pl h h1) (b : PFj P pl h1 h2) : PFj P pl h h2 := ⟨fun z x y => (b.1 z x y).trans (a.1 z x y), fun f x1 x2 x3 x4 x5 x6 x7 => (b.2.1 f x1 x2 x3 x4 x5 x6 x7).trans (a.2.1 f x1 x2 x3 x4 x5 x6 x7), fun f x => (b.2.2 f x).trans (a.2.2 f x)⟩
def PJ (T : jT) (h : jH) (P tq pl : Nat) (tp : List Int) (k : Nat) (g : Int) (p : spPn) : Prop := PSs T h P tq tp k g ∧ h P 0 = (pl : Int) ∧ PDr h pl p
section PJN
variable {T : jT} {P tq pl : Nat} {tp : List Int} {k : Nat} {g : Int} {p : spPn}
theorem CFm.eq {h h' : jH} {fo : Nat} {K : List Int} (m : CFm h fo K) (e0 : h' fo 1 = h fo 1) (e1 : h' (fo + 1) = h (fo + 1)) : CFm h' fo K := ⟨e0.trans m.1, m.2.1, fun i c hc => by rw [e1]; exact m.2.2 i c hc⟩
theorem PDr.w {h h' : jH} (m : PDr h pl p) (e : ∀ z, pl ≤ z → z ≤ pl + 11 → h' z = h z) : PDr h' pl p := by
  obtain ⟨⟨m1, m2⟩, ⟨m3, m4⟩, m5, m6, m7⟩ := m
  have e0 := e pl (by omega) (by omega)
  exact ⟨⟨by rw [e0]; exact m1, m2.eq (by rw [e _ (by omega) (by omega)]) (e _ (by omega) (by omega))⟩, ⟨by rw [e0]; exact m3, m4.eq (by rw [e _ (by omega) (by omega)]) (e _ (by omega) (by omega))⟩, by rw [e0]; exact m5, by rw [e0]; exact m6, fun i v hv => by rw [e (pl + 9) (by omega) (by omega), e (pl + 10) (by omega) (by omega), e (pl + 11) (by omega) (by omega)]; exact m7 i v hv⟩
theorem PFw.jj {h h' : jH} (hd : P < pl ∨ pl + 11 < P) (a : PFw P h h') : PFj P pl h h' := ⟨fun z x _ => a.1 z x, fun f x1 x2 x3 x4 _ _ _ => a.2 f x1 x2 x3 x4, fun f _ => by rw [a.1 pl (by omega)]⟩
theorem PJ.w {h h' : jH} {k' : Nat} {g' : Int} (hd : P < pl ∨ pl + 11 < P) (m : PJ T h P tq pl tp k g p) (f : PFw P h h') (s : PSs T h' P tq tp k' g') : PJ T h' P tq pl tp k' g' p := ⟨s, by rw [f.2 0 (by decide) (by decide) (by decide) (by decide)]; exact m.2.1, m.2.2.w (fun z z1 z2 => f.1 z (by omega))⟩
theorem PJ.dyn {h : jH} (hT : isX6 T pl) (m : PJ T h P tq pl tp k g p) : jdyn (isX6 T) (h P 0) = some pl := by rw [m.2.1]; exact jdyn_at hT
theorem c_record {h : jH} (hT : isX6 T pl) (hd : P < pl ∨ pl + 11 < P) (hq : tq < pl ∨ pl + 11 < tq) (hp : p.2.2.2.length ≤ 39) (hs : PJ T h P tq pl tp (spPk tp (k + 3)) ((k + 3 : Nat) : Int) p) : ∃ h' v, Pa_record T h P = some (v, h') ∧ PFj P pl h h' ∧ (∀ e, spPut tp k p = .inl e → v = 0 ∧ PBad P h' e) ∧ ∀ k2 g2 p2, spPut tp k p = .inr (k2, g2, p2) → v = 1 ∧ PJ T h' P tq pl tp k2 g2 p2 := by
  unfold Pa_record spPut
  obtain ⟨h1, a, a1, a2, a3, a4⟩ := c_number (lo := 0) (hi := 15) (by decide) hs.1
  rw [a1, Option.bind_some]
  dsimp only
  cases n1 : spNum tp ((k + 3 : Nat) : Int) (spPk tp (k + 3)) 0 15 with
  | inl e0 =>
    obtain ⟨rfl, hb⟩ := a3 e0 n1
    rw [if_pos rfl]
    exact ⟨h1, 0, rfl, a2.jj hd, fun e he => by rw [← Sum.inl.inj he]; exact ⟨rfl, hb⟩, fun k2 g2 p2 he => (by cases he)⟩
  | inr x =>
  obtain ⟨x1, e1⟩ := x
  obtain ⟨rfl, s1⟩ := a4 x1 e1 n1
  have ok1 := spNum_ok n1
  dsimp only
  rw [if_neg (by omega)]
  have j1 := hs.w hd a2 s1
  obtain ⟨h2, b, b1, b2, b3, b4⟩ := c_number (lo := 0) (hi := 999) (by decide) s1
  rw [b1, Option.bind_some]
  dsimp only
  cases n2 : spNum tp (e1 : Int) (spPk tp e1) 0 999 with
  | inl e0 =>
    obtain ⟨rfl, hb⟩ := b3 e0 n2
    rw [if_pos rfl]
    exact ⟨h2, 0, rfl, (a2.tr b2).jj hd, fun e he => by rw [← Sum.inl.inj he]; exact ⟨rfl, hb⟩, fun k2 g2 p2 he => (by cases he)⟩
  | inr x =>
  obtain ⟨x2, e2⟩ := x
  obtain ⟨rfl, s2⟩ := b4 x2 e2 n2
  have ok2 := spNum_ok n2
  dsimp only
  rw [if_neg (by omega)]
  have j2 := j1.w hd b2 s2
  obtain ⟨h3, c1, c2, c3, c4⟩ := c_xword (w := spWsize) (by decide) s2
  rw [show Pa_expectWord T h2 P [115, 105, 122, 101] = _ from c1, Option.bind_some]
  dsimp only
  cases n3 : spWd tp (e2 : Int) (spPk tp e2) spWsize with
  | false =>
    have hb := c4 n3
    rw [if_pos (show (if false = true then (1 : Int) else 0) = 0 from rfl), if_neg (show ¬ false = true by decide)]
    exact ⟨h3, 0, rfl, (a2.tr (b2.tr c2)).jj hd, fun e he => by rw [← Sum.inl.inj he]; exact ⟨rfl, hb⟩, fun k2 g2 p2 he => (by cases he)⟩
  | true =>
  rw [if_neg (show ¬ (if true = true then (1 : Int) else 0) = 0 by decide), if_pos (show true = true from rfl)]
  have s3 : PSs T h3 P tq tp (spPk tp (spPk tp e2 + 4)) ((spPk tp e2 + 4 : Nat) : Int) := c3 n3
  have j3 := j2.w hd c2 s3
  obtain ⟨h4, d, d1, d2, d3, d4⟩ := c_number (lo := 0) (hi := 40) (by decide) s3
  rw [d1, Option.bind_some]
  dsimp only
  have f4 := a2.tr (b2.tr (c2.tr d2))
  cases n4 : spNum tp ((spPk tp e2 + 4 : Nat) : Int) (spPk tp (spPk tp e2 + 4)) 0 40 with
  | inl e0 =>
    obtain ⟨rfl, hb⟩ := d3 e0 n4
    rw [if_pos rfl]
    exact ⟨h4, 0, rfl, f4.jj hd, fun e he => by rw [← Sum.inl.inj he]; exact ⟨rfl, hb⟩, fun k2 g2 p2 he => (by cases he)⟩
  | inr x =>
  obtain ⟨x4, e4⟩ := x
  obtain ⟨rfl, s4⟩ := d4 x4 e4 n4
  have ok4 := spNum_ok n4
  dsimp only
  rw [if_neg (by omega)]
  have j4 := j3.w hd d2 s4
  rw [j4.dyn hT, Option.bind_some]
  obtain ⟨-, w1, ⟨m1, m2⟩, ⟨m3, m4⟩, m5, m6, m7⟩ := j4
  obtain ⟨L, hL⟩ : ∃ L : Nat, L = p.2.2.2.length := ⟨_, rfl⟩
  rw [← hL] at m6
  unfold Pl_addPut G_put
  rw [m6, if_neg (by omega), if_pos (by omega), if_pos (by omega), Int.toNat_natCast, Option.bind_some, jup_ne (show pl ≠ pl + 9 by omega), m6, if_neg (by omega), if_pos (by omega), if_pos (by omega), Int.toNat_natCast, Option.bind_some, jup_ne (show pl ≠ pl + 10 by omega), jup_ne (show pl ≠ pl + 9 by omega), m6, if_neg (by omega), if_pos (by omega), if_pos (by omega), Int.toNat_natCast, Option.bind_some, jup_ne (show pl ≠ pl + 11 by omega), jup_ne (show pl ≠ pl + 10 by omega), jup_ne (show pl ≠ pl + 9 by omega), m6, pw (x := (L : Int) + 1) (by omega) (by omega)]
  obtain ⟨h5, hh5⟩ : ∃ h5 : jH, h5 = jup (jup (jup (jup h4 (pl + 9) L a) (pl + 10) L b) (pl + 11) L d) pl 12 ((L : Int) + 1) := ⟨_, rfl⟩
  rw [← hh5, Option.bind_some]
  have go : ∀ z, z ≠ pl → z ≠ pl + 9 → z ≠ pl + 10 → z ≠ pl + 11 → h5 z = h4 z := fun z z0 z1 z2 z3 => by rw [hh5, jup_ne z0, jup_ne z3, jup_ne z2, jup_ne z1]
  have gp : ∀ f, f ≠ 12 → h5 pl f = h4 pl f := fun f hf => by rw [hh5, ju_ne hf, jup_ne (by omega), jup_ne (by omega), jup_ne (by omega)]
  have g9 : ∀ i, h5 (pl + 9) i = (if i = L then a else h4 (pl + 9) i) := fun i => by rw [hh5, jup_ne (by omega), jup_ne (by omega), jup_ne (by omega), ju_if]
  have g10 : ∀ i, h5 (pl + 10) i = (if i = L then b else h4 (pl + 10) i) := fun i => by rw [hh5, jup_ne (by omega), jup_ne (by omega), ju_if, jup_ne (by omega)]
  have g11 : ∀ i, h5 (pl + 11) i = (if i = L then d else h4 (pl + 11) i) := fun i => by rw [hh5, jup_ne (by omega), ju_if, jup_ne (by omega), jup_ne (by omega)]
  have eP : h5 P = h4 P := go P (by omega) (by omega) (by omega) (by omega)
  have f5 : PFj P pl h4 h5 := ⟨fun z _ z2 => go z (by omega) (by omega) (by omega) (by omega), fun f _ _ _ _ _ _ _ => by rw [eP], fun f hf => gp f (by omega)⟩
  refine ⟨h5, 1, rfl, (f4.jj hd).tr f5, fun e he => (by cases he), fun k2 g2 p2 he => ?_⟩
  cases he
  obtain ⟨s5, s6, s7⟩ := s4
  refine ⟨rfl, ⟨⟨by rw [eP]; exact s5.1, s5.2.1, s5.2.2.1, by rw [eP]; exact s5.2.2.2.1, s5.2.2.2.2.1, s5.2.2.2.2.2.1, fun j v hj => by rw [go tq (by omega) (by omega) (by omega) (by omega)]; exact s5.2.2.2.2.2.2 j v hj⟩, by rw [eP]; exact s6, by rw [eP]; exact s7⟩, by rw [eP]; exact w1, ⟨by rw [gp 5 (by decide)]; exact m1, m2.eq (by rw [go _ (by omega) (by omega) (by omega) (by omega)]) (go _ (by omega) (by omega) (by omega) (by omega))⟩, ⟨by rw [gp 6 (by decide)]; exact m3, m4.eq (by rw [go _ (by omega) (by omega) (by omega) (by omega)]) (go _ (by omega) (by omega) (by omega) (by omega))⟩, by rw [gp 3 (by decide)]; exact m5, by rw [hh5, ju_eq, List.length_append, ← hL]; rfl, fun i v hv => ?_⟩
  by_cases c : i = L
  · rw [c, hL, List.getElem?_append_right (Nat.le_refl _), Nat.sub_self] at hv
    have := Option.some.inj hv
    rw [← this, g9, g10, g11, if_pos c, if_pos c, if_pos c]
    exact ⟨rfl, rfl, rfl⟩
  · have hi := (List.getElem?_eq_some_iff.mp hv).1
    rw [List.length_append, ← hL] at hi
    have hi2 : i < L + 1 := hi
    rw [List.getElem?_append_left (by omega)] at hv
    rw [g9, g10, g11, if_neg c, if_neg c, if_neg c]
    exact m7 i v hv
end PJN
