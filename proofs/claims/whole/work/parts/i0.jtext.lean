/-! a journal's text: the spec -/
/-- closes, takes, noise, puts -/
abbrev spPn : Type := Option (List Int) × Option (List Int) × Int × List (Int × Int × Int)
def spPut (tp : List Int) (k : Nat) (p : spPn) : spE (Nat × Int × spPn) :=
  match spNum tp ((k + 3 : Nat) : Int) (spPk tp (k + 3)) 0 15 with
  | .inl e => .inl e
  | .inr (a, e1) => match spNum tp (e1 : Int) (spPk tp e1) 0 999 with
    | .inl e => .inl e
    | .inr (b, e2) => if spWd tp (e2 : Int) (spPk tp e2) spWsize = true then (match spNum tp ((spPk tp e2 + 4 : Nat) : Int) (spPk tp (spPk tp e2 + 4)) 0 40 with
      | .inl e => .inl e
      | .inr (c, e3) => .inr (spPk tp e3, (e3 : Int), (p.1, p.2.1, p.2.2.1, p.2.2.2 ++ [(a, b, c)]))) else .inl (1, spPk tp e2)
def spNoi (tp : List Int) (k : Nat) (p : spPn) : spE (Nat × Int × spPn) :=
  match spNum tp ((k + 5 : Nat) : Int) (spPk tp (k + 5)) 0 100 with
  | .inl e => .inl e
  | .inr (v, e) => .inr (spPk tp e, (e : Int), (p.1, p.2.1, v, p.2.2.2))
def spClz (tp : List Int) (k : Nat) (p : spPn) : spE (Nat × Int × spPn) :=
  match p.1 with
  | some _ => .inl (5, k)
  | none => match spTest tp (spFact tp 0 6) (spPk tp (k + 6)) ((k + 6 : Nat) : Int) with
    | .inl e => .inl e
    | .inr (k2, g2, K) => .inr (k2, g2, (some K, p.2))
def spTak (tp : List Int) (k : Nat) (p : spPn) : spE (Nat × Int × spPn) :=
  match p.2.1 with
  | some _ => .inl (5, k)
  | none => match spSms tp (spPart tp 1 6) (spPk tp (k + 5)) ((k + 5 : Nat) : Int) with
    | .inl e => .inl e
    | .inr (k2, g2, K) => .inr (k2, g2, (p.1, some K, p.2.2))
def spStm (tp : List Int) (k : Nat) (g : Int) (p : spPn) : spE (Nat × Int × spPn) :=
  if spWd tp g k spWput = true then spPut tp k p
  else if spWd tp g k spWnoise = true then spNoi tp k p
  else if spWd tp g k spWcloses = true then spClz tp k p
  else if spWd tp g k spWtakes = true then spTak tp k p
  else .inl (1, k)
/-- the statements: v of them are told -/
def spJnl (tp : List Int) : Nat → Nat → Nat → Int → spPn → spE (Nat × spPn)
  | 0, _, k, _, _ => .inl (1, k)
  | f + 1, v, k, g, p => if spTx tp k = 59 then (if spTx tp (spPk tp (k + 1)) = -1 then .inr (v, p) else if v = 40 then .inl (5, spPk tp (k + 1)) else (match spStm tp (spPk tp (k + 1)) g p with
    | .inl e => .inl e
    | .inr (k2, g2, p2) => spJnl tp f (v + 1) k2 g2 p2)) else .inl (1, k)
def spShp (tp : List Int) : spE (Nat × Int × Int × Int × Int) :=
  if spWd tp (-1) (spPk tp 0) spWjournal = true then (match spNum tp ((spPk tp 0 + 7 : Nat) : Int) (spPk tp (spPk tp 0 + 7)) 2 4 with
    | .inl e => .inl e
    | .inr (a, e1) => if spWd tp (e1 : Int) (spPk tp e1) spWblocks = true then (match spNum tp ((spPk tp e1 + 6 : Nat) : Int) (spPk tp (spPk tp e1 + 6)) 2 4 with
      | .inl e => .inl e
      | .inr (b, e2) => if spWd tp (e2 : Int) (spPk tp e2) spWbytes = true then (match spNum tp ((spPk tp e2 + 5 : Nat) : Int) (spPk tp (spPk tp e2 + 5)) 16 32 with
        | .inl e => .inl e
        | .inr (c, e3) => .inr (spPk tp e3, (e3 : Int), a, b, c)) else .inl (1, spPk tp e2)) else .inl (1, spPk tp e1)) else .inl (1, spPk tp 0)
def spJour (tp : List Int) : spE ((Int × Int × Int) × Nat × spPn) := match spShp tp with
  | .inl e => .inl e
  | .inr (k, g, a, b, c) => match spJnl tp 41 1 k g (none, none, 0, []) with
    | .inl e => .inl e
    | .inr (n, p) => .inr ((a, b, c), n, p)
/-! the reference reads it -/
def MWj (h : jH) (o : Nat) : Prop := MWo h (o + 3) spWjournal ∧ MWo h (o + 4) spWblocks ∧ MWo h (o + 5) spWbytes ∧ MWo h (o + 6) spWput ∧ MWo h (o + 7) spWsize ∧ MWo h (o + 8) spWcloses ∧ MWo h (o + 9) spWtakes ∧ MWo h (o + 10) spWnoise
def mJfd (f : Nat) : Bool := [2, 4, 5, 6, 10, 41, 44, 99, 101, 102, 103].contains f
def mJfe (f : Nat) : Bool := [2, 4, 5, 6, 10, 41, 42, 44, 99, 101, 102, 103].contains f
/-- what reading a journal's text may change -/
def MJq (P : Nat → Bool) (o : Nat) (h h' : jH) : Prop := (∀ z, z ≠ o → z ≠ o + 28 → z ≠ o + 29 → z ≠ o + 30 → z ≠ o + 31 → z ≠ o + 32 → z ≠ o + 65 → z ≠ o + 66 → h' z = h z) ∧ (∀ f, P f = false → h' o f = h o f) ∧ (∀ i, (i ≠ 3 ∧ i ≠ 4) → h' (o + 28) i = h (o + 28) i) ∧ (∀ i, 2 ≤ i → h' (o + 30) i = h (o + 30) i) ∧ (∀ i, 2 ≤ i → h' (o + 31) i = h (o + 31) i) ∧ ∀ i, 1600 ≤ i → h' (o + 32) i = h (o + 32) i
abbrev MJf := MJq mJfd
abbrev MJs := MJq mJfe
theorem MJq.rf {P : Nat → Bool} {o : Nat} {h : jH} : MJq P o h h := ⟨fun _ _ _ _ _ _ _ _ _ => rfl, fun _ _ => rfl, fun _ _ => rfl, fun _ _ => rfl, fun _ _ => rfl, fun _ _ => rfl⟩
theorem MJq.tr {P : Nat → Bool} {o : Nat} {h h1 h2 : jH} (a : MJq P o h h1) (b : MJq P o h1 h2) : MJq P o h h2 := ⟨fun z x1 x2 x3 x4 x5 x6 x7 x8 => (b.1 z x1 x2 x3 x4 x5 x6 x7 x8).trans (a.1 z x1 x2 x3 x4 x5 x6 x7 x8), fun f x => (b.2.1 f x).trans (a.2.1 f x), fun i x => (b.2.2.1 i x).trans (a.2.2.1 i x), fun i x => (b.2.2.2.1 i x).trans (a.2.2.2.1 i x), fun i x => (b.2.2.2.2.1 i x).trans (a.2.2.2.2.1 i x), fun i x => (b.2.2.2.2.2 i x).trans (a.2.2.2.2.2 i x)⟩
theorem mJfd_ne {P : Nat → Bool} {f : Nat} {n : Nat} (h : P f = false) (hn : P n = true) : f ≠ n := fun e => by rw [e, hn] at h; cases h
theorem mJfe_d {f : Nat} (h : mJfe f = false) : mJfd f = false := by
  unfold mJfe at h
  unfold mJfd
  simp only [List.contains_cons, List.contains_nil, Bool.or_eq_false_iff] at h ⊢
  obtain ⟨a1, a2, a3, a4, a5, a6, a7, a8⟩ := h
  exact ⟨a1, a2, a3, a4, a5, a6, a8⟩
theorem MJq.s {o : Nat} {h h' : jH} (a : MJq mJfd o h h') : MJq mJfe o h h' := ⟨a.1, fun f hf => a.2.1 f (mJfe_d hf), a.2.2.1, a.2.2.2.1, a.2.2.2.2.1, a.2.2.2.2.2⟩
theorem MKg.j {o : Nat} {h h' : jH} (a : MKg o h h') : MJf o h h' := ⟨fun z x1 _ _ _ _ _ x7 x8 => a.1 z x1 x7 x8, fun f hf => a.2 f (mJfd_ne hf (by decide)) (mJfd_ne hf (by decide)) (mJfd_ne hf (by decide)) (mJfd_ne hf (by decide)) (mJfd_ne hf (by decide)) (mJfd_ne hf (by decide)) (mJfd_ne hf (by decide)) (mJfd_ne hf (by decide)) (mJfd_ne hf (by decide)), fun i _ => by rw [a.1 _ (by omega) (by omega) (by omega)], fun i _ => by rw [a.1 _ (by omega) (by omega) (by omega)], fun i _ => by rw [a.1 _ (by omega) (by omega) (by omega)], fun i _ => by rw [a.1 _ (by omega) (by omega) (by omega)]⟩
theorem MFw.j {o : Nat} {h h' : jH} (a : MFw o h h') : MJf o h h' := a.k.j
/-- a place's codes in the draft -/
def MCd (h : jH) (o c n : Nat) : Option (List Int) → Prop
  | none => h (o + 30) c = -1
  | some K => ∃ s : Nat, h (o + 30) c = (s : Int) ∧ h (o + 31) c = ((s + K.length : Nat) : Int) ∧ s + K.length ≤ n ∧ ∀ (i : Nat) (v : Int), K[i]? = some v → h (o + 32) (s + i) = v
def MPu (h : jH) (o : Nat) (P : List (Int × Int × Int)) : Prop := h (o + 28) 3 = (P.length : Int) ∧ ∀ (i : Nat) (v : Int × Int × Int), P[i]? = some v → h (o + 29) (3 * i) = v.1 ∧ h (o + 29) (3 * i + 1) = v.2.1 ∧ h (o + 29) (3 * i + 2) = v.2.2
/-- the draft stands for p; n codes are used -/
def MDr (h : jH) (o n : Nat) (p : spPn) : Prop := h o 41 = (n : Int) ∧ MCd h o 0 n p.1 ∧ MCd h o 1 n p.2.1 ∧ h (o + 28) 4 = p.2.2.1 ∧ MPu h o p.2.2.2
def MJ (h : jH) (o : Nat) (tp : List Int) (k : Nat) (g : Int) (p : spPn) : Prop := MSs h o tp k g ∧ MWd h o ∧ MWj h o ∧ ∃ n : Nat, MDr h o n p ∧ n ≤ k
section MJN
variable {o : Nat} {tp : List Int} {k : Nat} {g : Int} {p : spPn}
theorem m_numBad {h : jH} {lo hi : Int} (h5 : h o 5 ≠ 0) : M_number h o lo hi = some (0, h) := by unfold M_number; rw [if_neg h5]
theorem MWj.j {h h' : jH} (w : MWj h o) (f : MJs o h h') : MWj h' o := by
  have e : ∀ d, 1 ≤ d → d ≤ 27 → h' (o + d) = h (o + d) := fun d d1 d2 => f.1 _ (by omega) (by omega) (by omega) (by omega) (by omega) (by omega) (by omega) (by omega)
  exact ⟨w.1.eq (e 3 (by omega) (by omega)), w.2.1.eq (e 4 (by omega) (by omega)), w.2.2.1.eq (e 5 (by omega) (by omega)), w.2.2.2.1.eq (e 6 (by omega) (by omega)), w.2.2.2.2.1.eq (e 7 (by omega) (by omega)), w.2.2.2.2.2.1.eq (e 8 (by omega) (by omega)), w.2.2.2.2.2.2.1.eq (e 9 (by omega) (by omega)), w.2.2.2.2.2.2.2.eq (e 10 (by omega) (by omega))⟩
theorem MWd.e {h h' : jH} (hw : MWd h o) (e : ∀ z, o + 43 ≤ z → z ≤ o + 64 → h' z = h z) : MWd h' o := by
  obtain ⟨⟨w1, w2, w3, w4, w5, w6, w7⟩, w8, w9, w10, w11, w12, w13, w14, w15, w16, w17⟩ := hw
  exact ⟨⟨w1.eq (e _ (by omega) (by omega)), w2.eq (e _ (by omega) (by omega)), w3.eq (e _ (by omega) (by omega)), w4.eq (e _ (by omega) (by omega)), w5.eq (e _ (by omega) (by omega)), w6.eq (e _ (by omega) (by omega)), w7.eq (e _ (by omega) (by omega))⟩, w8.eq (e _ (by omega) (by omega)), w9.eq (e _ (by omega) (by omega)), w10.eq (e _ (by omega) (by omega)), w11.eq (e _ (by omega) (by omega)), w12.eq (e _ (by omega) (by omega)), w13.eq (e _ (by omega) (by omega)), w14.eq (e _ (by omega) (by omega)), w15.eq (e _ (by omega) (by omega)), w16.eq (e _ (by omega) (by omega)), w17.eq (e _ (by omega) (by omega))⟩
theorem MWd.j {h h' : jH} (w : MWd h o) (f : MJs o h h') : MWd h' o := w.e (fun z z1 z2 => f.1 z (by omega) (by omega) (by omega) (by omega) (by omega) (by omega) (by omega) (by omega))
theorem MCd.fr {h h' : jH} {c n n' : Nat} {q : Option (List Int)} (m : MCd h o c n q) (e0 : h' (o + 30) c = h (o + 30) c) (e1 : h' (o + 31) c = h (o + 31) c) (e2 : ∀ i, i < n → h' (o + 32) i = h (o + 32) i) (hn : n ≤ n') : MCd h' o c n' q := by
  cases q with
  | none => exact e0.trans m
  | some K =>
    obtain ⟨s, m1, m2, m3, m4⟩ := m
    refine ⟨s, e0.trans m1, e1.trans m2, by omega, fun i v hv => ?_⟩
    have := (List.getElem?_eq_some_iff.mp hv).1
    rw [e2 _ (by omega)]
    exact m4 i v hv
theorem MDr.w {h h' : jH} {n : Nat} (m : MDr h o n p) (f : MKg o h h') : MDr h' o n p := by
  obtain ⟨m1, m2, m3, m4, m5, m6⟩ := m
  have go : ∀ z, o < z → z < o + 65 → h' z = h z := fun z z1 z2 => f.1 z (by omega) (by omega) (by omega)
  refine ⟨by rw [f.2 41 (by decide) (by decide) (by decide) (by decide) (by decide) (by decide) (by decide) (by decide) (by decide)]; exact m1, m2.fr (by rw [go _ (by omega) (by omega)]) (by rw [go _ (by omega) (by omega)]) (fun i _ => by rw [go _ (by omega) (by omega)]) (Nat.le_refl _), m3.fr (by rw [go _ (by omega) (by omega)]) (by rw [go _ (by omega) (by omega)]) (fun i _ => by rw [go _ (by omega) (by omega)]) (Nat.le_refl _), by rw [go _ (by omega) (by omega)]; exact m4, by rw [go _ (by omega) (by omega)]; exact m5, fun i v hv => by rw [go (o + 29) (by omega) (by omega)]; exact m6 i v hv⟩
theorem MJ.w {h h' : jH} {k' : Nat} {g' : Int} (m : MJ h o tp k g p) (f : MFw o h h') (s : MSs h' o tp k' g') (hk : k ≤ k') : MJ h' o tp k' g' p := by
  obtain ⟨m1, m2, m3, n, m4, m5⟩ := m
  exact ⟨s, m2.w f, m3.j f.j.s, n, m4.w f.k, by omega⟩
/-- put -/
theorem m_put {h : jH} (hp : p.2.2.2.length ≤ 39) (hs : MJ h o tp (spPk tp (k + 3)) ((k + 3 : Nat) : Int) p) : ∃ h', M_putTold h o = some h' ∧ MJf o h h' ∧ (∀ e, spPut tp k p = .inl e → MBad o h' e) ∧ ∀ k2 g2 p2, spPut tp k p = .inr (k2, g2, p2) → MJ h' o tp k2 g2 p2 ∧ spPk tp (k + 3) ≤ k2 ∧ p2.2.2.2.length = p.2.2.2.length + 1 := by
  unfold M_putTold spPut
  obtain ⟨h1, a, a1, a2, a3, a4⟩ := m_number (lo := 0) (hi := 15) hs.1
  rw [a1, Option.bind_some]
  dsimp only
  cases n1 : spNum tp ((k + 3 : Nat) : Int) (spPk tp (k + 3)) 0 15 with
  | inl e0 =>
    have hb := a3 e0 n1
    have h5 : h1 o 5 ≠ 0 := by rw [hb.1]; exact hb.2.2
    rw [m_numBad h5, Option.bind_some]
    dsimp only
    rw [m_asksBad h5, Option.bind_some, m_numBad h5, Option.bind_some]
    dsimp only
    rw [if_neg h5]
    exact ⟨h1, rfl, a2.j, fun e he => by rw [← Sum.inl.inj he]; exact hb, fun k2 g2 p2 he => (by cases he)⟩
  | inr x =>
  obtain ⟨x1, e1⟩ := x
  obtain ⟨rfl, s1⟩ := a4 x1 e1 n1
  have ok1 := spNum_ok n1
  have q1 := (spPk_in (tp := tp) e1).1
  have j1 := hs.w a2 s1 (by omega)
  dsimp only
  obtain ⟨h2, b, b1, b2, b3, b4⟩ := m_number (lo := 0) (hi := 999) s1
  rw [b1, Option.bind_some]
  dsimp only
  cases n2 : spNum tp (e1 : Int) (spPk tp e1) 0 999 with
  | inl e0 =>
    have hb := b3 e0 n2
    have h5 : h2 o 5 ≠ 0 := by rw [hb.1]; exact hb.2.2
    rw [m_asksBad h5, Option.bind_some, m_numBad h5, Option.bind_some]
    dsimp only
    rw [if_neg h5]
    exact ⟨h2, rfl, (a2.tr b2).j, fun e he => by rw [← Sum.inl.inj he]; exact hb, fun k2 g2 p2 he => (by cases he)⟩
  | inr x =>
  obtain ⟨x2, e2⟩ := x
  obtain ⟨rfl, s2⟩ := b4 x2 e2 n2
  have ok2 := spNum_ok n2
  have q2 := (spPk_in (tp := tp) e2).1
  have j2 := j1.w b2 s2 (by omega)
  dsimp only
  obtain ⟨h3, c1, c2, c3, c4⟩ := m_asksW (r := o + 7) (n := 4) (w := spWsize) (by omega) rfl (by decide) j2.2.2.1.2.2.2.2.1 s2
  rw [c1, Option.bind_some]
  cases n3 : spWd tp (e2 : Int) (spPk tp e2) spWsize with
  | false =>
    have hb := c4 n3
    have h5 : h3 o 5 ≠ 0 := by rw [hb.1]; exact hb.2.2
    rw [m_numBad h5, Option.bind_some, if_neg (show ¬ false = true by decide)]
    dsimp only
    rw [if_neg h5]
    exact ⟨h3, rfl, (a2.tr (b2.tr c2)).j, fun e he => by rw [← Sum.inl.inj he]; exact hb, fun k2 g2 p2 he => (by cases he)⟩
  | true =>
  rw [if_pos (show true = true from rfl)]
  have s3 : MSs h3 o tp (spPk tp (spPk tp e2 + 4)) ((spPk tp e2 + 4 : Nat) : Int) := c3 n3
  have q3 := (spPk_in (tp := tp) (spPk tp e2 + 4)).1
  have j3 := j2.w c2 s3 (by omega)
  obtain ⟨h4, d, d1, d2, d3, d4⟩ := m_number (lo := 0) (hi := 40) s3
  rw [d1, Option.bind_some]
  dsimp only
  have f4 := a2.tr (b2.tr (c2.tr d2))
  cases n4 : spNum tp ((spPk tp e2 + 4 : Nat) : Int) (spPk tp (spPk tp e2 + 4)) 0 40 with
  | inl e0 =>
    have hb := d3 e0 n4
    rw [if_neg (show ¬ h4 o 5 = 0 by rw [hb.1]; exact hb.2.2)]
    exact ⟨h4, rfl, f4.j, fun e he => by rw [← Sum.inl.inj he]; exact hb, fun k2 g2 p2 he => (by cases he)⟩
  | inr x =>
  obtain ⟨x4, e4⟩ := x
  obtain ⟨rfl, s4⟩ := d4 x4 e4 n4
  have ok4 := spNum_ok n4
  have q4 := (spPk_in (tp := tp) e4).1
  have j4 := j3.w d2 s4 (by omega)
  dsimp only
  obtain ⟨-, w1, w2, n, ⟨m1, m2, m3, m4, m5, m6⟩, m7⟩ := j4
  obtain ⟨L, hL⟩ : ∃ L : Nat, L = p.2.2.2.length := ⟨_, rfl⟩
  rw [← hL] at m5
  have ne : o + 28 ≠ o + 29 := by omega
  have i0 : (3 * (L : Int)).toNat = 3 * L := by omega
  have i1 : (3 * (L : Int) + 1).toNat = 3 * L + 1 := by omega
  have i2 : (3 * (L : Int) + 2).toNat = 3 * L + 2 := by omega
  have i3 : (3 : Int).toNat = 3 := rfl
  have p1 := pw (x := 3 * (L : Int)) (by omega) (by omega)
  have p2 := pw (x := 3 * (L : Int) + 1) (by omega) (by omega)
  have p3 := pw (x := 3 * (L : Int) + 2) (by omega) (by omega)
  have p4 := pw (x := (L : Int) + 1) (by omega) (by omega)
  rw [if_pos s4.2.2.2]
  simp only [i3, jup_ne ne, m5, p1, p2, p3, p4, i0, i1, i2]
  rw [if_pos (by decide), if_pos (by omega), if_pos (by decide), if_pos (by omega), if_pos (by decide), if_pos (by omega), if_pos (by decide), if_pos (by decide)]
  obtain ⟨h5, hh5⟩ : ∃ h5 : jH, h5 = jup (jup (jup (jup h4 (o + 29) (3 * L) a) (o + 29) (3 * L + 1) b) (o + 29) (3 * L + 2) d) (o + 28) 3 ((L : Int) + 1) := ⟨_, rfl⟩
  rw [← hh5]
  have go : ∀ z, z ≠ o + 28 → z ≠ o + 29 → h5 z = h4 z := fun z z1 z2 => by rw [hh5, jup_ne z1, jup_ne z2, jup_ne z2, jup_ne z2]
  have g28 : ∀ i, i ≠ 3 → h5 (o + 28) i = h4 (o + 28) i := fun i hi => by rw [hh5, ju_ne hi, jup_ne ne, jup_ne ne, jup_ne ne]
  have g29 : ∀ i, h5 (o + 29) i = (if i = 3 * L + 2 then d else if i = 3 * L + 1 then b else if i = 3 * L then a else h4 (o + 29) i) := fun i => by rw [hh5, jup_ne (Ne.symm ne), ju_if, ju_if, ju_if]
  refine ⟨h5, rfl, f4.j.tr ⟨fun z _ z2 z3 _ _ _ _ _ => go z z2 z3, fun f _ => by rw [go o (by omega) (by omega)], fun i hi => g28 i (by omega), fun i _ => by rw [go _ (by omega) (by omega)], fun i _ => by rw [go _ (by omega) (by omega)], fun i _ => by rw [go _ (by omega) (by omega)]⟩, fun e he => (by cases he), fun k2 g2 p2 he => ?_⟩
  cases he
  refine ⟨⟨s4.fd (go _ (by omega) (by omega)) (fun f _ => by rw [go o (by omega) (by omega)]), w1.e (fun z z1 z2 => go z (by omega) (by omega)), ?_, n, ⟨by rw [go o (by omega) (by omega)]; exact m1, m2.fr (by rw [go _ (by omega) (by omega)]) (by rw [go _ (by omega) (by omega)]) (fun i _ => by rw [go _ (by omega) (by omega)]) (Nat.le_refl _), m3.fr (by rw [go _ (by omega) (by omega)]) (by rw [go _ (by omega) (by omega)]) (fun i _ => by rw [go _ (by omega) (by omega)]) (Nat.le_refl _), by rw [g28 4 (by decide)]; exact m4, by rw [hh5, ju_eq, List.length_append, ← hL]; rfl, fun i v hv => ?_⟩, m7⟩, by omega, by rw [List.length_append]; rfl⟩
  · refine w2.j (MJq.s ⟨fun z _ z2 z3 _ _ _ _ _ => go z z2 z3, fun f _ => by rw [go o (by omega) (by omega)], fun i hi => g28 i (by omega), fun i _ => by rw [go _ (by omega) (by omega)], fun i _ => by rw [go _ (by omega) (by omega)], fun i _ => by rw [go _ (by omega) (by omega)]⟩)
  · by_cases c : i = L
    · rw [c, hL, List.getElem?_append_right (Nat.le_refl _), Nat.sub_self] at hv
      have := Option.some.inj hv
      rw [← this, g29, g29, g29, c, if_neg (by omega), if_neg (by omega), if_pos rfl, if_neg (by omega), if_pos rfl, if_pos rfl]
      exact ⟨rfl, rfl, rfl⟩
    · have hi := (List.getElem?_eq_some_iff.mp hv).1
      rw [List.length_append, ← hL] at hi
      have hi2 : i < L + 1 := hi
      rw [List.getElem?_append_left (by omega)] at hv
      rw [g29, g29, g29, if_neg (by omega), if_neg (by omega), if_neg (by omega), if_neg (by omega), if_neg (by omega), if_neg (by omega), if_neg (by omega), if_neg (by omega), if_neg (by omega)]
      exact m6 i v hv
end MJN
