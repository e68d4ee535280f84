/-! the reference reads a journal's text: shape, all of it -/
/-- behind a semicolon -/
def spJnB (tp : List Int) (f m k : Nat) (g : Int) (p : spPn) : spE (Nat × spPn) := if spTx tp k = -1 then .inr (m, p) else if m = 40 then .inl (5, k) else (match spStm tp k g p with
    | .inl e => .inl e
    | .inr (k2, g2, p2) => spJnl tp f (m + 1) k2 g2 p2)
theorem spJnl_s {tp : List Int} {f m k : Nat} {g : Int} {p : spPn} : spJnl tp (f + 1) m k g p = if spTx tp k = 59 then spJnB tp f m (spPk tp (k + 1)) g p else .inl (1, k) := rfl
def MJQ (h : jH) (o : Nat) (tp : List Int) : spE (Nat × Int) → Prop
  | .inl e => MBad o h e
  | .inr (k, g) => MSs h o tp k g
def spAsk (tp : List Int) (w : List Int) : spE (Nat × Int) → spE (Nat × Int)
  | .inl e => .inl e
  | .inr (k, g) => if spWd tp g k w = true then .inr (spPk tp (k + w.length), ((k + w.length : Nat) : Int)) else .inl (1, k)
def spNm (tp : List Int) (lo hi : Int) : spE (Nat × Int) → spE (Int × Nat × Int)
  | .inl e => .inl e
  | .inr (k, g) => match spNum tp g k lo hi with
    | .inl e => .inl e
    | .inr (v, e) => .inr (v, spPk tp e, (e : Int))
def spDrp : spE (Int × Nat × Int) → spE (Nat × Int)
  | .inl e => .inl e
  | .inr (_, k, g) => .inr (k, g)
def spX1 (tp : List Int) : spE (Int × Nat × Int) := spNm tp 2 4 (spAsk tp spWjournal (.inr (spPk tp 0, -1)))
def spX2 (tp : List Int) : spE (Int × Nat × Int) := spNm tp 2 4 (spAsk tp spWblocks (spDrp (spX1 tp)))
def spX3 (tp : List Int) : spE (Int × Nat × Int) := spNm tp 16 32 (spAsk tp spWbytes (spDrp (spX2 tp)))
theorem spShp_x {tp : List Int} : (∀ e, spShp tp = .inl e → spX3 tp = .inl e) ∧ ∀ k g a b c, spShp tp = .inr (k, g, a, b, c) → spX3 tp = .inr (c, k, g) ∧ (∃ y, spX1 tp = .inr (a, y)) ∧ ∃ y, spX2 tp = .inr (b, y) := by
  have e1 : spX1 tp = (if spWd tp (-1) (spPk tp 0) spWjournal = true then (match spNum tp ((spPk tp 0 + 7 : Nat) : Int) (spPk tp (spPk tp 0 + 7)) 2 4 with | .inl e => .inl e | .inr (v, e) => .inr (v, spPk tp e, (e : Int))) else .inl (1, spPk tp 0)) := by
    unfold spX1 spAsk
    dsimp only
    split <;> rfl
  unfold spShp
  cases c1 : spWd tp (-1) (spPk tp 0) spWjournal with
  | false =>
    rw [c1, if_neg (show ¬ false = true by decide)] at e1
    rw [if_neg (show ¬ false = true by decide)]
    refine ⟨fun e he => ?_, fun k g a b c he => (by cases he)⟩
    cases he
    unfold spX3 spX2
    rw [e1]
    rfl
  | true =>
  rw [c1, if_pos (show true = true from rfl)] at e1
  rw [if_pos (show true = true from rfl)]
  cases n1 : spNum tp ((spPk tp 0 + 7 : Nat) : Int) (spPk tp (spPk tp 0 + 7)) 2 4 with
  | inl e0 =>
    rw [n1] at e1
    refine ⟨fun e he => ?_, fun k g a b c he => (by cases he)⟩
    cases he
    unfold spX3 spX2
    rw [e1]
    rfl
  | inr x =>
  obtain ⟨a, y1⟩ := x
  rw [n1] at e1
  dsimp only at e1 ⊢
  have e2 : spX2 tp = (if spWd tp (y1 : Int) (spPk tp y1) spWblocks = true then (match spNum tp ((spPk tp y1 + 6 : Nat) : Int) (spPk tp (spPk tp y1 + 6)) 2 4 with | .inl e => .inl e | .inr (v, e) => .inr (v, spPk tp e, (e : Int))) else .inl (1, spPk tp y1)) := by
    unfold spX2
    rw [e1]
    unfold spDrp spAsk
    dsimp only
    split <;> rfl
  cases c2 : spWd tp (y1 : Int) (spPk tp y1) spWblocks with
  | false =>
    rw [c2, if_neg (show ¬ false = true by decide)] at e2
    rw [if_neg (show ¬ false = true by decide)]
    refine ⟨fun e he => ?_, fun k g a b c he => (by cases he)⟩
    cases he
    unfold spX3
    rw [e2]
    rfl
  | true =>
  rw [c2, if_pos (show true = true from rfl)] at e2
  rw [if_pos (show true = true from rfl)]
  cases n2 : spNum tp ((spPk tp y1 + 6 : Nat) : Int) (spPk tp (spPk tp y1 + 6)) 2 4 with
  | inl e0 =>
    rw [n2] at e2
    refine ⟨fun e he => ?_, fun k g a b c he => (by cases he)⟩
    cases he
    unfold spX3
    rw [e2]
    rfl
  | inr x =>
  obtain ⟨b, y2⟩ := x
  rw [n2] at e2
  dsimp only at e2 ⊢
  have e3 : spX3 tp = (if spWd tp (y2 : Int) (spPk tp y2) spWbytes = true then (match spNum tp ((spPk tp y2 + 5 : Nat) : Int) (spPk tp (spPk tp y2 + 5)) 16 32 with | .inl e => .inl e | .inr (v, e) => .inr (v, spPk tp e, (e : Int))) else .inl (1, spPk tp y2)) := by
    unfold spX3
    rw [e2]
    unfold spDrp spAsk
    dsimp only
    split <;> rfl
  cases c3 : spWd tp (y2 : Int) (spPk tp y2) spWbytes with
  | false =>
    rw [c3, if_neg (show ¬ false = true by decide)] at e3
    rw [if_neg (show ¬ false = true by decide)]
    refine ⟨fun e he => ?_, fun k g a b c he => (by cases he)⟩
    cases he
    exact e3
  | true =>
  rw [c3, if_pos (show true = true from rfl)] at e3
  rw [if_pos (show true = true from rfl)]
  cases n3 : spNum tp ((spPk tp y2 + 5 : Nat) : Int) (spPk tp (spPk tp y2 + 5)) 16 32 with
  | inl e0 =>
    rw [n3] at e3
    refine ⟨fun e he => ?_, fun k g a b c he => (by cases he)⟩
    cases he
    exact e3
  | inr x =>
  obtain ⟨c, y3⟩ := x
  rw [n3] at e3
  refine ⟨fun e he => (by cases he), fun k g a' b' c' he => ?_⟩
  cases he
  exact ⟨e3, ⟨_, e1⟩, _, e2⟩
section MJR
variable {o : Nat} {tp : List Int} {k : Nat} {g : Int} {p : spPn}
theorem MJQ.ask {h : jH} {x : spE (Nat × Int)} {r n : Nat} {w : List Int} (hr : r ≠ o) (hn : n = w.length) (hw : 1 ≤ w.length ∧ w.length ≤ 20) (hW : MWo h r w) (hq : MJQ h o tp x) : ∃ h', M_asks h o r n = some h' ∧ MFw o h h' ∧ MJQ h' o tp (spAsk tp w x) := by
  cases x with
  | inl e =>
    have hb : MBad o h e := hq
    exact ⟨h, m_asksBad (by rw [hb.1]; exact hb.2.2), MFw.rf, hb⟩
  | inr y =>
    obtain ⟨k, g⟩ := y
    obtain ⟨h', a1, a2, a3, a4⟩ := m_asksW hr hn hw hW (show MSs h o tp k g from hq)
    refine ⟨h', a1, a2, ?_⟩
    show MJQ h' o tp (if spWd tp g k w = true then .inr (spPk tp (k + w.length), ((k + w.length : Nat) : Int)) else .inl (1, k))
    by_cases c : spWd tp g k w = true
    · rw [if_pos c]; exact a3 c
    · rw [if_neg c]; exact a4 (Bool.eq_false_iff.mpr c)
theorem MJQ.num {h : jH} {x : spE (Nat × Int)} {lo hi : Int} (hq : MJQ h o tp x) : ∃ h' v, M_number h o lo hi = some (v, h') ∧ MFw o h h' ∧ MJQ h' o tp (spDrp (spNm tp lo hi x)) ∧ ∀ a y, spNm tp lo hi x = .inr (a, y) → v = a := by
  cases x with
  | inl e =>
    have hb : MBad o h e := hq
    exact ⟨h, 0, m_numBad (by rw [hb.1]; exact hb.2.2), MFw.rf, hb, fun a y he => (by cases he)⟩
  | inr y =>
    obtain ⟨k, g⟩ := y
    obtain ⟨h', v, a1, a2, a3, a4⟩ := m_number (lo := lo) (hi := hi) (show MSs h o tp k g from hq)
    refine ⟨h', v, a1, a2, ?_, ?_⟩
    · show MJQ h' o tp (spDrp (match spNum tp g k lo hi with | .inl e => (.inl e : spE (Int × Nat × Int)) | .inr (v, e) => .inr (v, spPk tp e, (e : Int))))
      cases c : spNum tp g k lo hi with
      | inl e => exact a3 e c
      | inr z =>
        obtain ⟨z, e⟩ := z
        exact (a4 z e c).2
    · show ∀ a y, (match spNum tp g k lo hi with | .inl e => (.inl e : spE (Int × Nat × Int)) | .inr (v, e) => .inr (v, spPk tp e, (e : Int))) = .inr (a, y) → v = a
      cases c : spNum tp g k lo hi with
      | inl e => exact fun a y he => (by cases he)
      | inr z =>
        obtain ⟨z, e⟩ := z
        intro a y he
        cases he
        exact (a4 _ e c).1
theorem MJQ.w {h h' : jH} {x : spE (Nat × Int)} (hq : MJQ h o tp x) (e0 : h' o = h o) (e1 : h' (o + 1) = h (o + 1)) : MJQ h' o tp x := by
  cases x with
  | inl e => exact MBad.fd (o := o) (h := h) hq (by rw [e0]) (by rw [e0])
  | inr y => exact MSs.fd (o := o) (h := h) hq e1 (fun f _ => by rw [e0])
/-- the shape -/
theorem m_shape {h : jH} (hq : MJQ h o tp (.inr (spPk tp 0, -1))) (hw : MWj h o) : ∃ h' : jH, M_journalTold h o = M_asksSign h' o 59 ∧ (∀ z, z ≠ o → z ≠ o + 28 → h' z = h z) ∧ (∀ f, f ≠ 2 → f ≠ 4 → f ≠ 5 → f ≠ 6 → f ≠ 10 → h' o f = h o f) ∧ (∀ i, 3 ≤ i → h' (o + 28) i = h (o + 28) i) ∧ (∀ e, spShp tp = .inl e → MBad o h' e) ∧ ∀ k g a b c, spShp tp = .inr (k, g, a, b, c) → MSs h' o tp k g ∧ h' (o + 28) 0 = a ∧ h' (o + 28) 1 = b ∧ h' (o + 28) 2 = c := by
  have ne : o + 28 ≠ o := by omega
  have i0 : (0 : Int).toNat = 0 := rfl
  have i1 : (1 : Int).toNat = 1 := rfl
  have i2 : (2 : Int).toNat = 2 := rfl
  unfold M_journalTold
  obtain ⟨h1, a1, a2, a3⟩ := hq.ask (r := o + 3) (n := 7) (by omega) rfl (by decide) hw.1
  obtain ⟨h2, v1, b1, b2, b3, b4⟩ := a3.num (lo := 2) (hi := 4)
  obtain ⟨h3, hh3⟩ : ∃ h3 : jH, h3 = jup h2 (o + 28) 0 v1 := ⟨_, rfl⟩
  have g3 : ∀ z, z ≠ o → z ≠ o + 28 → h3 z = h z := fun z z1 z2 => by rw [hh3, jup_ne z2, b2.1 z z1, a2.1 z z1]
  have q3 : MJQ h3 o tp (spDrp (spX1 tp)) := b3.w (by rw [hh3, jup_ne (Ne.symm ne)]) (by rw [hh3, jup_ne (by omega)])
  obtain ⟨h4, c1, c2, c3⟩ := q3.ask (r := o + 4) (n := 6) (by omega) rfl (by decide) (hw.2.1.eq (g3 _ (by omega) (by omega)))
  obtain ⟨h5, v2, d1, d2, d3, d4⟩ := c3.num (lo := 2) (hi := 4)
  obtain ⟨h6, hh6⟩ : ∃ h6 : jH, h6 = jup h5 (o + 28) 1 v2 := ⟨_, rfl⟩
  have g6 : ∀ z, z ≠ o → z ≠ o + 28 → h6 z = h z := fun z z1 z2 => by rw [hh6, jup_ne z2, d2.1 z z1, c2.1 z z1, g3 z z1 z2]
  have q6 : MJQ h6 o tp (spDrp (spX2 tp)) := d3.w (by rw [hh6, jup_ne (Ne.symm ne)]) (by rw [hh6, jup_ne (by omega)])
  obtain ⟨h7, e1, e2, e3⟩ := q6.ask (r := o + 5) (n := 5) (by omega) rfl (by decide) (hw.2.2.1.eq (g6 _ (by omega) (by omega)))
  obtain ⟨h8, v3, f1, f2, f3, f4⟩ := e3.num (lo := 16) (hi := 32)
  obtain ⟨h9, hh9⟩ : ∃ h9 : jH, h9 = jup h8 (o + 28) 2 v3 := ⟨_, rfl⟩
  have q9 : MJQ h9 o tp (spDrp (spX3 tp)) := f3.w (by rw [hh9, jup_ne (Ne.symm ne)]) (by rw [hh9, jup_ne (by omega)])
  have s9 : h9 (o + 28) 2 = v3 := by rw [hh9, ju_eq]
  have s8 : h9 (o + 28) 1 = v2 := by rw [hh9, ju_ne (by decide), f2.1 _ ne, e2.1 _ ne, hh6, ju_eq]
  have s7 : h9 (o + 28) 0 = v1 := by rw [hh9, ju_ne (by decide), f2.1 _ ne, e2.1 _ ne, hh6, ju_ne (by decide), d2.1 _ ne, c2.1 _ ne, hh3, ju_eq]
  obtain ⟨x1, x2⟩ := spShp_x (tp := tp)
  refine ⟨h9, ?_, fun z z1 z2 => by rw [hh9, jup_ne z2, f2.1 z z1, e2.1 z z1, g6 z z1 z2], fun f y1 y2 y3 y4 y5 => ?_, fun i hi => ?_, fun e he => ?_, fun k g a b c he => ?_⟩
  · rw [a1, Option.bind_some, b1, Option.bind_some, if_pos (by decide), i0]
    dsimp only
    rw [← hh3, c1, Option.bind_some, d1, Option.bind_some, if_pos (by decide), i1]
    dsimp only
    rw [← hh6, e1, Option.bind_some, f1, Option.bind_some, if_pos (by decide), i2]
    dsimp only
    rw [← hh9]
    cases M_asksSign h9 o 59 with
    | none => rfl
    | some x => rfl
  · rw [hh9, jup_ne (Ne.symm ne), f2.2 f y1 y2 y3 y4 y5, e2.2 f y1 y2 y3 y4 y5, hh6, jup_ne (Ne.symm ne), d2.2 f y1 y2 y3 y4 y5, c2.2 f y1 y2 y3 y4 y5, hh3, jup_ne (Ne.symm ne), b2.2 f y1 y2 y3 y4 y5, a2.2 f y1 y2 y3 y4 y5]
  · rw [hh9, ju_ne (by omega), f2.1 _ ne, e2.1 _ ne, hh6, ju_ne (by omega), d2.1 _ ne, c2.1 _ ne, hh3, ju_ne (by omega), b2.1 _ ne, a2.1 _ ne]
  · rw [x1 e he] at q9
    exact q9
  · obtain ⟨y1, ⟨y2, y3⟩, y4, y5⟩ := x2 k g a b c he
    have t3 := f4 c (k, g) y1
    have t1 := b4 a y2 y3
    have t2 := d4 b y4 y5
    rw [y1] at q9
    exact ⟨q9, s7.trans t1, s8.trans t2, s9.trans t3⟩
/-- the statements' loop: what holds at its end -/
theorem m_jnl : ∀ (f m k : Nat) (g : Int) (p : spPn) (h : jH), f + m = 41 → 1 ≤ m → m ≤ 40 → p.2.2.2.length + 1 ≤ m → h o 42 = (m : Int) → MJ h o tp k g p → ∃ h', M_journal_L81 h o = M_journal_p103 h' o ∧ MJs o h h' ∧ (∀ e, spJnB tp f m k g p = .inl e → MBad o h' e) ∧ ∀ n q, spJnB tp f m k g p = .inr (n, q) → h' o 42 = (n : Int) ∧ ∃ k' g', MJ h' o tp k' g' q := by
  have bad : ∀ (h : jH) (e : Int × Nat), MBad o h e → M_journal_L81 h o = M_journal_p103 h o := by
    intro h e hb
    unfold M_journal_L81
    refine jloop_x ?_
    unfold M_journal_B81
    rw [if_neg (show ¬ h o 5 = 0 by rw [hb.1]; exact hb.2.2)]
  intro f
  induction f with
  | zero => intro m k g p h hf h1 h2; omega
  | succ f ih =>
    intro m k g p h hf hm1 hm2 hpu h42 hs
    obtain ⟨h1, a1, a2, a3, a4, -⟩ := m_look hs.1
    have s1 := hs.w a2 a4 (Nat.le_refl _)
    have e42 : h1 o 42 = (m : Int) := by rw [a2.2 42 (by decide) (by decide) (by decide) (by decide) (by decide)]; exact h42
    unfold spJnB
    by_cases c : spTx tp k = -1
    · rw [if_pos c]
      refine ⟨h1, ?_, a2.j.s, fun e he => (by cases he), fun n q he => ?_⟩
      · unfold M_journal_L81
        refine jloop_x ?_
        unfold M_journal_B81
        rw [if_pos hs.1.2.2.2, a1, Option.bind_some]
        dsimp only
        rw [if_pos c]
      · cases he
        exact ⟨e42, k, g, s1⟩
    rw [if_neg c]
    obtain ⟨p1, p2⟩ := m_stm e42 ⟨hm1, hm2⟩ hpu s1 a3
    have step : ∀ h2, M_statementTold h1 o = some h2 → M_journal_L81 h o = M_journal_L81 h2 o := by
      intro h2 e
      unfold M_journal_L81
      refine jloop_l (s' := h2) ?_
      unfold M_journal_B81
      rw [if_pos hs.1.2.2.2, a1, Option.bind_some]
      dsimp only
      rw [if_neg c, e, Option.bind_some]
    by_cases c2 : m = 40
    · rw [if_pos c2]
      obtain ⟨h2, b1, b2, b3⟩ := p1 c2
      refine ⟨h2, (step h2 b1).trans (bad h2 _ b3), a2.j.s.tr b2, fun e he => by rw [← Sum.inl.inj he]; exact b3, fun n q he => (by cases he)⟩
    rw [if_neg c2]
    obtain ⟨h2, b1, b2, b3, b4⟩ := p2 (by omega)
    have f2 := a2.j.s.tr b2
    rw [step h2 b1]
    cases hr : spStm tp k g p with
    | inl e0 =>
      have hb := b3 e0 hr
      exact ⟨h2, bad h2 _ hb, f2, fun e he => by rw [← Sum.inl.inj he]; exact hb, fun n q he => (by cases he)⟩
    | inr x =>
      obtain ⟨k2, g2, q2⟩ := x
      obtain ⟨d1, d2, d3, d4⟩ := b4 k2 g2 q2 hr
      dsimp only
      rw [spJnl_s]
      by_cases c3 : spTx tp k2 = 59
      · rw [if_pos c3]
        obtain ⟨h3, x1, x2, x3, x4⟩ := ih (m + 1) _ g2 q2 h2 (by omega) (by omega) (by omega) (by omega) d1 (d4 c3)
        exact ⟨h3, x1, f2.tr x2, x3, x4⟩
      · rw [if_neg c3]
        have hb := d3 c3
        exact ⟨h2, bad h2 _ hb, f2, fun e he => by rw [← Sum.inl.inj he]; exact hb, fun n q he => (by cases he)⟩
end MJR
