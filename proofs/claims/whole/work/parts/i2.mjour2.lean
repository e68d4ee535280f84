/-! the reference reads a journal's text: statements, shape -/
section MJP
variable {o : Nat} {tp : List Int} {k : Nat} {g : Int} {p : spPn}
theorem spPut_len {p2 : spPn} {k2 : Nat} {g2 : Int} (h : spPut tp k p = .inr (k2, g2, p2)) : p2.2.2.2.length = p.2.2.2.length + 1 := by
  unfold spPut at h
  split at h
  · cases h
  split at h
  · cases h
  split at h
  · split at h
    · cases h
    · cases h; rw [List.length_append]; rfl
  · cases h
/-- one statement and its semicolon -/
theorem m_stm {h : jH} {m : Nat} (h42 : h o 42 = (m : Int)) (hm : 1 ≤ m ∧ m ≤ 40) (hpu : p.2.2.2.length + 1 ≤ m) (hs : MJ h o tp k g p) (h2k : h o 2 = (k : Int)) : (m = 40 → ∃ h', M_statementTold h o = some h' ∧ MJs o h h' ∧ MBad o h' (5, k)) ∧ (m < 40 → ∃ h', M_statementTold h o = some h' ∧ MJs o h h' ∧ (∀ e, spStm tp k g p = .inl e → MBad o h' e) ∧ ∀ k2 g2 p2, spStm tp k g p = .inr (k2, g2, p2) → h' o 42 = ((m + 1 : Nat) : Int) ∧ p2.2.2.2.length ≤ m ∧ (spTx tp k2 ≠ 59 → MBad o h' (1, k2)) ∧ (spTx tp k2 = 59 → MJ h' o tp (spPk tp (k2 + 1)) g2 p2)) := by
  unfold M_statementTold
  rw [h42]
  refine ⟨fun e => ?_, fun e => ?_⟩
  · obtain ⟨h1, a1, a2, a3, -⟩ := m_failAt (o := o) (h := h) (e := (5, k)) hs.1.2.2.2 (by show ¬ (5 : Int) = 0; decide)
    rw [if_pos (by omega), h2k, show M_fail h o 5 (k : Int) = _ from a1, Option.bind_some]
    exact ⟨h1, rfl, a2.j.s, a3⟩
  rw [if_neg (by omega), h2k]
  -- what follows a statement
  have fin : ∀ (h1 : jH) (X : spE (Nat × Int × spPn)), MJf o h h1 → h1 o 42 = (m : Int) → (∀ e, X = .inl e → MBad o h1 e) → (∀ k2 g2 p2, X = .inr (k2, g2, p2) → MJ h1 o tp k2 g2 p2 ∧ p2.2.2.2.length ≤ m) → ∃ h', M_statementTold_p100 h1 o = some h' ∧ MJs o h h' ∧ (∀ e, X = .inl e → MBad o h' e) ∧ ∀ k2 g2 p2, X = .inr (k2, g2, p2) → h' o 42 = ((m + 1 : Nat) : Int) ∧ p2.2.2.2.length ≤ m ∧ (spTx tp k2 ≠ 59 → MBad o h' (1, k2)) ∧ (spTx tp k2 = 59 → MJ h' o tp (spPk tp (k2 + 1)) g2 p2) := by
    intro h1 X f1 e42 hb hg
    cases hX : X with
    | inl e0 =>
      have b := hb e0 hX
      obtain ⟨h2, c1, c2, c3⟩ := (m_100 (tp := tp) (k := k) (g := g) (p := p) e42 (by omega)).1 (by rw [b.1]; exact b.2.2)
      exact ⟨h2, c1, f1.s.tr c2, fun e he => by rw [← Sum.inl.inj he]; exact c3 e0 b, fun k2 g2 p2 he => (by cases he)⟩
    | inr x =>
      obtain ⟨k2, g2, p2⟩ := x
      obtain ⟨j1, hl⟩ := hg k2 g2 p2 hX
      obtain ⟨h2, c1, c2, c3, c4, c5⟩ := (m_100 e42 (by omega)).2 j1
      refine ⟨h2, c1, f1.s.tr c2, fun e he => (by cases he), fun k3 g3 p3 he => ?_⟩
      cases he
      exact ⟨c3, hl, c4, c5⟩
  have w3 := hs.2.2.1
  obtain ⟨h1, a1, a2, a3, a4⟩ := m_takes (r := o + 6) (n := 3) (w := spWput) (by omega) rfl (by decide) w3.2.2.2.1 hs.1
  rw [a1, Option.bind_some]
  dsimp only
  have h42' : ∀ h', MFw o h h' → h' o 42 = (m : Int) := fun h' f => by rw [f.2 42 (by decide) (by decide) (by decide) (by decide) (by decide)]; exact h42
  have k42 : ∀ h', MJf o h h' → h' o 42 = (m : Int) := fun h' f => (f.2.1 42 (by decide)).trans h42
  unfold spStm
  cases c0 : spWd tp g k spWput with
  | true =>
    rw [if_neg (show ¬ (if true = true then (1 : Int) else 0) = 0 by decide), if_pos (show true = true from rfl)]
    have s1 : MSs h1 o tp (spPk tp (k + 3)) ((k + 3 : Nat) : Int) := a3 c0
    have q := (spPk_in (tp := tp) (k + 3)).1
    obtain ⟨h2, b1, b2, b3, b4⟩ := m_put (by omega) (hs.w a2 s1 (by omega))
    rw [b1, Option.bind_some]
    exact fin h2 _ (a2.j.tr b2) (k42 _ (a2.j.tr b2)) b3 (fun k2 g2 p2 he => ⟨(b4 k2 g2 p2 he).1, by rw [(b4 k2 g2 p2 he).2.2]; omega⟩)
  | false =>
  rw [if_pos (show (if false = true then (1 : Int) else 0) = 0 from rfl)]
  have j1 := hs.w a2 (a4 c0).1 (Nat.le_refl _)
  obtain ⟨h2, b1, b2, b3, b4⟩ := m_takes (r := o + 8) (n := 6) (w := spWcloses) (by omega) rfl (by decide) j1.2.2.1.2.2.2.2.2.1 j1.1
  rw [b1, Option.bind_some]
  dsimp only
  cases c1 : spWd tp g k spWcloses with
  | true =>
    have cn : spWd tp g k spWnoise = false := spWd_no c1 (by decide)
    rw [cn, if_neg (show ¬ (if true = true then (1 : Int) else 0) = 0 by decide), if_neg (show ¬ false = true by decide), if_pos (show true = true from rfl)]
    have s2 : MSs h2 o tp (spPk tp (k + 6)) ((k + 6 : Nat) : Int) := b3 c1
    have q := (spPk_in (tp := tp) (k + 6)).1
    obtain ⟨d1, d2⟩ := mj_codes (md := 0) (pos := k) (q := p.1) (Or.inl rfl) rfl (j1.w b2 s2 (by omega))
    unfold spClz
    cases hp : p.1 with
    | some K0 =>
      obtain ⟨h3, e1, e2, e3⟩ := d1 K0 hp
      rw [show M_codesTold h2 o 0 (k : Int) = _ from e1, Option.bind_some]
      exact fin h3 _ (a2.j.tr (b2.j.tr e2)) (k42 _ (a2.j.tr (b2.j.tr e2))) (fun e he => by rw [← Sum.inl.inj he]; exact e3) (fun k2 g2 p2 he => (by cases he))
    | none =>
      obtain ⟨h3, e1, e2, e3, e4⟩ := d2 hp
      rw [show M_codesTold h2 o 0 (k : Int) = _ from e1, Option.bind_some]
      rw [if_pos rfl] at e3 e4
      dsimp only
      refine fin h3 _ (a2.j.tr (b2.j.tr e2)) (k42 _ (a2.j.tr (b2.j.tr e2))) (fun e he => ?_) (fun k2 g2 p2 he => ?_)
      · cases hr : spTest tp (spFact tp 0 6) (spPk tp (k + 6)) ((k + 6 : Nat) : Int) with
        | inl e0 => rw [hr] at he; rw [← Sum.inl.inj he]; exact e3 e0 hr
        | inr x => rw [hr] at he; cases he
      · cases hr : spTest tp (spFact tp 0 6) (spPk tp (k + 6)) ((k + 6 : Nat) : Int) with
        | inl e0 => rw [hr] at he; cases he
        | inr x =>
          obtain ⟨k1, g1, K1⟩ := x
          rw [hr] at he
          cases he
          exact ⟨e4 _ _ K1 hr, by show p.2.2.2.length ≤ m; omega⟩
  | false =>
  rw [if_pos (show (if false = true then (1 : Int) else 0) = 0 from rfl)]
  have j2 := j1.w b2 (b4 c1).1 (Nat.le_refl _)
  obtain ⟨h3, d1, d2, d3, d4⟩ := m_takes (r := o + 9) (n := 5) (w := spWtakes) (by omega) rfl (by decide) j2.2.2.1.2.2.2.2.2.2.1 j2.1
  rw [d1, Option.bind_some]
  dsimp only
  cases c2 : spWd tp g k spWtakes with
  | true =>
    have cn : spWd tp g k spWnoise = false := spWd_no c2 (by decide)
    rw [cn, if_neg (show ¬ (if true = true then (1 : Int) else 0) = 0 by decide), if_neg (show ¬ false = true by decide), if_pos (show true = true from rfl)]
    have s3 : MSs h3 o tp (spPk tp (k + 5)) ((k + 5 : Nat) : Int) := d3 c2
    have q := (spPk_in (tp := tp) (k + 5)).1
    obtain ⟨e1, e2⟩ := mj_codes (md := 1) (pos := k) (q := p.2.1) (Or.inr rfl) rfl (j2.w d2 s3 (by omega))
    unfold spTak
    cases hp : p.2.1 with
    | some K0 =>
      obtain ⟨h4, f1, f2, f3⟩ := e1 K0 hp
      rw [show M_codesTold h3 o 1 (k : Int) = _ from f1, Option.bind_some]
      exact fin h4 _ (a2.j.tr (b2.j.tr (d2.j.tr f2))) (k42 _ (a2.j.tr (b2.j.tr (d2.j.tr f2)))) (fun e he => by rw [← Sum.inl.inj he]; exact f3) (fun k2 g2 p2 he => (by cases he))
    | none =>
      obtain ⟨h4, f1, f2, f3, f4⟩ := e2 hp
      rw [show M_codesTold h3 o 1 (k : Int) = _ from f1, Option.bind_some]
      rw [if_neg (show ¬ (1 : Nat) = 0 by decide)] at f3 f4
      dsimp only
      refine fin h4 _ (a2.j.tr (b2.j.tr (d2.j.tr f2))) (k42 _ (a2.j.tr (b2.j.tr (d2.j.tr f2)))) (fun e he => ?_) (fun k2 g2 p2 he => ?_)
      · cases hr : spSms tp (spPart tp 1 6) (spPk tp (k + 5)) ((k + 5 : Nat) : Int) with
        | inl e0 => rw [hr] at he; rw [← Sum.inl.inj he]; exact f3 e0 hr
        | inr x => rw [hr] at he; cases he
      · cases hr : spSms tp (spPart tp 1 6) (spPk tp (k + 5)) ((k + 5 : Nat) : Int) with
        | inl e0 => rw [hr] at he; cases he
        | inr x =>
          obtain ⟨k1, g1, K1⟩ := x
          rw [hr] at he
          cases he
          exact ⟨f4 _ _ K1 hr, by show p.2.2.2.length ≤ m; omega⟩
  | false =>
  rw [if_pos (show (if false = true then (1 : Int) else 0) = 0 from rfl)]
  have j3 := j2.w d2 (d4 c2).1 (Nat.le_refl _)
  obtain ⟨h4, e1, e2, e3, e4⟩ := m_asksW (r := o + 10) (n := 5) (w := spWnoise) (by omega) rfl (by decide) j3.2.2.1.2.2.2.2.2.2.2 j3.1
  rw [e1, Option.bind_some]
  have f4 := a2.tr (b2.tr (d2.tr e2))
  cases c3 : spWd tp g k spWnoise with
  | false =>
    rw [if_neg (show ¬ false = true by decide), if_neg (show ¬ false = true by decide), if_neg (show ¬ false = true by decide)]
    have hb := e4 c3
    rw [m_numBad (by rw [hb.1]; exact hb.2.2), Option.bind_some, if_pos (by decide)]
    have hj : MJf o h4 (jup h4 (o + 28) (4 : Int).toNat 0) := ⟨fun z _ z2 _ _ _ _ _ _ => jup_ne z2, fun f hf => by rw [jup_ne (by omega)], fun i hi => ju_ne (show i ≠ 4 by omega), fun i _ => by rw [jup_ne (by omega)], fun i _ => by rw [jup_ne (by omega)], fun i _ => by rw [jup_ne (by omega)]⟩
    exact fin _ _ (f4.j.tr hj) (by rw [jup_ne (by omega)]; exact h42' _ f4) (fun e he => by rw [← Sum.inl.inj he]; exact hb.fd (by rw [jup_ne (by omega)]) (by rw [jup_ne (by omega)])) (fun k2 g2 p2 he => (by cases he))
  | true =>
  rw [if_pos (show true = true from rfl)]
  have s4 : MSs h4 o tp (spPk tp (k + 5)) ((k + 5 : Nat) : Int) := e3 c3
  have q := (spPk_in (tp := tp) (k + 5)).1
  have j4 := j3.w e2 s4 (by omega)
  obtain ⟨h5, v, n1, n2, n3, n4⟩ := m_number (lo := 0) (hi := 100) s4
  rw [n1, Option.bind_some, if_pos (by decide)]
  dsimp only
  have f5 := f4.tr n2
  obtain ⟨h6, hh6⟩ : ∃ h6 : jH, h6 = jup h5 (o + 28) (4 : Int).toNat v := ⟨_, rfl⟩
  rw [← hh6]
  have go : ∀ z, z ≠ o + 28 → h6 z = h5 z := fun z hz => by rw [hh6, jup_ne hz]
  have g28 : ∀ i, i ≠ 4 → h6 (o + 28) i = h5 (o + 28) i := fun i hi => by rw [hh6]; exact ju_ne hi
  have hj : MJf o h5 h6 := ⟨fun z _ z2 _ _ _ _ _ _ => go z z2, fun f hf => by rw [go o (by omega)], fun i hi => g28 i (by omega), fun i _ => by rw [go _ (by omega)], fun i _ => by rw [go _ (by omega)], fun i _ => by rw [go _ (by omega)]⟩
  unfold spNoi
  refine fin h6 _ (f5.j.tr hj) (by rw [go o (by omega)]; exact h42' _ f5) (fun e he => ?_) (fun k2 g2 p2 he => ?_)
  · cases hr : spNum tp ((k + 5 : Nat) : Int) (spPk tp (k + 5)) 0 100 with
    | inl e0 => rw [hr] at he; rw [← Sum.inl.inj he]; exact (n3 e0 hr).fd (by rw [go o (by omega)]) (by rw [go o (by omega)])
    | inr x => rw [hr] at he; cases he
  · cases hr : spNum tp ((k + 5 : Nat) : Int) (spPk tp (k + 5)) 0 100 with
    | inl e0 => rw [hr] at he; cases he
    | inr x =>
      obtain ⟨x, e⟩ := x
      rw [hr] at he
      cases he
      obtain ⟨rfl, s5⟩ := n4 x e hr
      have ok := spNum_ok hr
      have qe := (spPk_in (tp := tp) e).1
      obtain ⟨s1, s2, s3, n, ⟨m1, m2, m3, m4, m5, m6⟩, s5'⟩ := j4.w n2 s5 (by omega)
      refine ⟨⟨s1.fd (go _ (by omega)) (fun f _ => by rw [go o (by omega)]), s2.j (MJq.s hj), s3.j (MJq.s hj), n, ⟨by rw [go o (by omega)]; exact m1, m2.fr (by rw [go _ (by omega)]) (by rw [go _ (by omega)]) (fun i _ => by rw [go _ (by omega)]) (Nat.le_refl _), m3.fr (by rw [go _ (by omega)]) (by rw [go _ (by omega)]) (fun i _ => by rw [go _ (by omega)]) (Nat.le_refl _), by rw [hh6]; exact ju_eq, by rw [g28 3 (by decide)]; exact m5, fun i v hv => by rw [go (o + 29) (by omega)]; exact m6 i v hv⟩, s5'⟩, by show p.2.2.2.length ≤ m; omega⟩
end MJP
