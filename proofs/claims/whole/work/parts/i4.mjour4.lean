/-! the reference reads a journal's text: from its call on -/
/-- what reading a journal's text may change, the tape's length too -/
def MJw (o : Nat) (h h' : jH) : Prop := (∀ z, z ≠ o → z ≠ o + 28 → z ≠ o + 29 → z ≠ o + 30 → z ≠ o + 31 → z ≠ o + 32 → z ≠ o + 65 → z ≠ o + 66 → h' z = h z) ∧ (∀ f, f ≠ 1 → f ≠ 3 → mJfe f = false → h' o f = h o f) ∧ (∀ i, 5 ≤ i → h' (o + 28) i = h (o + 28) i) ∧ (∀ i, 2 ≤ i → h' (o + 30) i = h (o + 30) i) ∧ (∀ i, 2 ≤ i → h' (o + 31) i = h (o + 31) i) ∧ ∀ i, 1600 ≤ i → h' (o + 32) i = h (o + 32) i
theorem MJw.tr {o : Nat} {h h1 h2 : jH} (a : MJw o h h1) (b : MJw o h1 h2) : MJw o h h2 := ⟨fun z x1 x2 x3 x4 x5 x6 x7 x8 => (b.1 z x1 x2 x3 x4 x5 x6 x7 x8).trans (a.1 z x1 x2 x3 x4 x5 x6 x7 x8), fun f x y w => (b.2.1 f x y w).trans (a.2.1 f x y w), fun i x => (b.2.2.1 i x).trans (a.2.2.1 i x), fun i x => (b.2.2.2.1 i x).trans (a.2.2.2.1 i x), fun i x => (b.2.2.2.2.1 i x).trans (a.2.2.2.2.1 i x), fun i x => (b.2.2.2.2.2 i x).trans (a.2.2.2.2.2 i x)⟩
theorem MJq.wd {o : Nat} {h h' : jH} (a : MJq mJfe o h h') : MJw o h h' := ⟨a.1, fun f _ _ hf => a.2.1 f hf, fun i hi => a.2.2.1 i ⟨by omega, by omega⟩, a.2.2.2.1, a.2.2.2.2.1, a.2.2.2.2.2⟩
section MJT
variable {o : Nat} {tp : List Int}
theorem MWj.e {h h' : jH} (w : MWj h o) (e : ∀ z, o < z → z ≤ o + 27 → h' z = h z) : MWj h' o := ⟨w.1.eq (e _ (by omega) (by omega)), w.2.1.eq (e _ (by omega) (by omega)), w.2.2.1.eq (e _ (by omega) (by omega)), w.2.2.2.1.eq (e _ (by omega) (by omega)), w.2.2.2.2.1.eq (e _ (by omega) (by omega)), w.2.2.2.2.2.1.eq (e _ (by omega) (by omega)), w.2.2.2.2.2.2.1.eq (e _ (by omega) (by omega)), w.2.2.2.2.2.2.2.eq (e _ (by omega) (by omega))⟩
theorem m_p103bad {h : jH} {e : Int × Nat} (hb : MBad o h e) : M_journal_L81 h o = M_journal_p103 h o := by
  unfold M_journal_L81
  refine jloop_x ?_
  unfold M_journal_B81
  rw [if_neg (show ¬ h o 5 = 0 by rw [hb.1]; exact hb.2.2)]
theorem m_journal0 {h : jH} (hL : CTa h o tp) (hby : spByt tp) (hw : MWd h o) (hj : MWj h o) : ∃ h', M_journal h o = M_journal_p103 h' o ∧ MJw o h h' ∧ h' o 1 = 0 ∧ (∀ e, spJour tp = .inl e → MBad o h' e) ∧ ∀ a b c n q, spJour tp = .inr ((a, b, c), n, q) → h' o 42 = (n : Int) ∧ h' (o + 28) 0 = a ∧ h' (o + 28) 1 = b ∧ h' (o + 28) 2 = c ∧ ∃ k g, MJ h' o tp k g q := by
  obtain ⟨l1, l2, l3⟩ := hL
  have ne : o + 28 ≠ o := by omega
  have j3 : (3 : Int).toNat = 3 := rfl
  have j4 : (4 : Int).toNat = 4 := rfl
  obtain ⟨h1, hh1⟩ : ∃ h1 : jH, h1 = jup (jup (jup (jup (jup (jup (jup (jup (jup h o 3 (h o 1)) o 1 0) o 2 0) o 4 (-1)) o 5 0) o 6 (-1)) o 41 0) (o + 28) 3 0) (o + 28) 4 0 := ⟨_, rfl⟩
  have go1 : ∀ z, z ≠ o → z ≠ o + 28 → h1 z = h z := fun z z1 z2 => by rw [hh1, jup_ne z2, jup_ne z2, jup_ne z1, jup_ne z1, jup_ne z1, jup_ne z1, jup_ne z1, jup_ne z1, jup_ne z1]
  have eo : h1 o = (jup (jup (jup (jup (jup (jup (jup h o 3 (h o 1)) o 1 0) o 2 0) o 4 (-1)) o 5 0) o 6 (-1)) o 41 0) o := by rw [hh1, jup_ne (Ne.symm ne), jup_ne (Ne.symm ne)]
  have gf1 : ∀ f, f ≠ 1 → f ≠ 3 → mJfe f = false → h1 o f = h o f := fun f f1 f3 hf => by rw [eo, ju_ne (mJfd_ne hf (by decide)), ju_ne (mJfd_ne hf (by decide)), ju_ne (mJfd_ne hf (by decide)), ju_ne (mJfd_ne hf (by decide)), ju_ne (mJfd_ne hf (by decide)), ju_ne f1, ju_ne f3]
  have f41 : h1 o 41 = 0 := by rw [eo, ju_eq]
  have f6 : h1 o 6 = -1 := by rw [eo, ju_ne (by decide), ju_eq]
  have f5 : h1 o 5 = 0 := by rw [eo, ju_ne (by decide), ju_ne (by decide), ju_eq]
  have f4 : h1 o 4 = -1 := by rw [eo, ju_ne (by decide), ju_ne (by decide), ju_ne (by decide), ju_eq]
  have f2 : h1 o 2 = 0 := by rw [eo, ju_ne (by decide), ju_ne (by decide), ju_ne (by decide), ju_ne (by decide), ju_eq]
  have f1 : h1 o 1 = 0 := by rw [eo, ju_ne (by decide), ju_ne (by decide), ju_ne (by decide), ju_ne (by decide), ju_ne (by decide), ju_eq]
  have f3 : h1 o 3 = (tp.length : Int) := by rw [eo, ju_ne (by decide), ju_ne (by decide), ju_ne (by decide), ju_ne (by decide), ju_ne (by decide), ju_ne (by decide), ju_eq]; exact l1
  have c4 : h1 (o + 28) 4 = 0 := by rw [hh1, ju_eq]
  have c3 : h1 (o + 28) 3 = 0 := by rw [hh1, ju_ne (by decide), ju_eq]
  have c5 : ∀ i, 5 ≤ i → h1 (o + 28) i = h (o + 28) i := fun i hi => by rw [hh1, ju_ne (by omega), ju_ne (by omega), jup_ne ne, jup_ne ne, jup_ne ne, jup_ne ne, jup_ne ne, jup_ne ne, jup_ne ne]
  obtain ⟨h2, hh2⟩ : ∃ h2 : jH, h2 = jup (jup h1 (o + 30) 0 (-1)) (o + 30) 1 (-1) := ⟨_, rfl⟩
  have go2 : ∀ z, z ≠ o + 30 → h2 z = h1 z := fun z z1 => by rw [hh2, jup_ne z1, jup_ne z1]
  have k0 : h2 (o + 30) 0 = -1 := by rw [hh2, ju_ne (by decide), ju_eq]
  have k1 : h2 (o + 30) 1 = -1 := by rw [hh2, ju_eq]
  have hstart : M_journal h o = Option.bind (M_journalTold h2 o) (fun b5 => M_journal_L81 (jup b5 o 42 1) o) := by
    unfold M_journal
    rw [if_pos (by decide), if_pos (by decide), j3, j4, ← hh1]
    unfold M_journal_L54
    have i0 : (0 : Int).toNat = 0 := rfl
    have i1 : (1 : Int).toNat = 1 := rfl
    refine (jloop_l (s' := ((1 : Int), jup h1 (o + 30) 0 (-1))) ?_).trans ((jloop_l (s' := ((2 : Int), h2)) ?_).trans (jloop_x ?_))
    · show M_journal_B54 h1 o 0 = _
      unfold M_journal_B54
      rw [if_pos (by decide), if_pos (by decide), i0, pw (by decide) (by decide)]
      rfl
    · show M_journal_B54 (jup h1 (o + 30) 0 (-1)) o 1 = _
      unfold M_journal_B54
      rw [if_pos (by decide), if_pos (by decide), i1, pw (by decide) (by decide), ← hh2]
      rfl
    · show M_journal_B54 h2 o 2 = _
      unfold M_journal_B54
      rw [if_neg (by decide)]
  have w2 : MWd h2 o := hw.e (fun z z1 z2 => by rw [go2 z (by omega), go1 z (by omega) (by omega)])
  have e30 : ∀ z, z ≠ o → z ≠ o + 28 → z ≠ o + 30 → h2 z = h z := fun z z1 z2 z3 => by rw [go2 z z3, go1 z z1 z2]
  have j2 : MWj h2 o := ⟨hj.1.eq (e30 _ (by omega) (by omega) (by omega)), hj.2.1.eq (e30 _ (by omega) (by omega) (by omega)), hj.2.2.1.eq (e30 _ (by omega) (by omega) (by omega)), hj.2.2.2.1.eq (e30 _ (by omega) (by omega) (by omega)), hj.2.2.2.2.1.eq (e30 _ (by omega) (by omega) (by omega)), hj.2.2.2.2.2.1.eq (e30 _ (by omega) (by omega) (by omega)), hj.2.2.2.2.2.2.1.eq (e30 _ (by omega) (by omega) (by omega)), hj.2.2.2.2.2.2.2.eq (e30 _ (by omega) (by omega) (by omega))⟩
  have s2 : MSs h2 o tp (spPk tp 0) (-1) := ⟨⟨by rw [go2 o (by omega)]; exact f3, l2, hby, fun j v hv => by rw [go2 _ (by omega), go1 _ (by omega) (by omega)]; exact l3 j v hv⟩, ⟨0, by rw [go2 o (by omega)]; exact f2, Nat.zero_le _, rfl, by rw [go2 o (by omega)]; exact f6⟩, by rw [go2 o (by omega)]; exact f4, by rw [go2 o (by omega)]; exact f5⟩
  have F2 : MJw o h h2 := ⟨fun z z1 z2 _ z4 _ _ _ _ => e30 z z1 z2 z4, fun f y1 y3 hf => by rw [go2 o (by omega)]; exact gf1 f y1 y3 hf, fun i hi => by rw [go2 _ (by omega)]; exact c5 i hi, fun i hi => by rw [hh2, ju_ne (by omega), ju_ne (by omega), go1 _ (by omega) (by omega)], fun i _ => by rw [e30 _ (by omega) (by omega) (by omega)], fun i _ => by rw [e30 _ (by omega) (by omega) (by omega)]⟩
  obtain ⟨h3, a1, a2, a3, a4, a5, a6⟩ := m_shape (tp := tp) s2 j2
  have F3 : MJw o h2 h3 := ⟨fun z z1 z2 _ _ _ _ _ _ => a2 z z1 z2, fun f _ _ hf => a3 f (mJfd_ne hf (by decide)) (mJfd_ne hf (by decide)) (mJfd_ne hf (by decide)) (mJfd_ne hf (by decide)) (mJfd_ne hf (by decide)), fun i hi => a4 i (by omega), fun i _ => by rw [a2 _ (by omega) (by omega)], fun i _ => by rw [a2 _ (by omega) (by omega)], fun i _ => by rw [a2 _ (by omega) (by omega)]⟩
  have F3' := F2.tr F3
  have one3 : h3 o 1 = 0 := by rw [a3 1 (by decide) (by decide) (by decide) (by decide) (by decide), go2 o (by omega)]; exact f1
  have F42 : ∀ h4 : jH, MJq mJfe o h4 (jup h4 o 42 1) := fun h4 => ⟨fun z z1 _ _ _ _ _ _ _ => jup_ne z1, fun f hf => ju_ne (mJfd_ne hf (by decide)), fun i _ => by rw [jup_ne (by omega)], fun i _ => by rw [jup_ne (by omega)], fun i _ => by rw [jup_ne (by omega)], fun i _ => by rw [jup_ne (by omega)]⟩
  rw [hstart, a1]
  unfold spJour
  cases hr : spShp tp with
  | inl e0 =>
    have hb := a5 e0 hr
    rw [m_signBad (by rw [hb.1]; exact hb.2.2), Option.bind_some]
    have hb4 : MBad o (jup h3 o 42 1) e0 := hb.fd (ju_ne (by decide)) (ju_ne (by decide))
    exact ⟨_, m_p103bad hb4, F3'.tr (F42 h3).wd, by rw [ju_ne (by decide)]; exact one3, fun e he => by rw [← Sum.inl.inj he]; exact hb4, fun a b c n q he => (by cases he)⟩
  | inr x =>
  obtain ⟨k, g, a, b, c⟩ := x
  obtain ⟨s3, x0, x1, x2⟩ := a6 k g a b c hr
  dsimp only
  obtain ⟨h4, b1, b2, b3, b4⟩ := m_asksSign (c := 59) (by decide) s3
  rw [b1, Option.bind_some, spJnl_s]
  have F4 := F3'.tr (b2.j.s.wd.tr (F42 h4).wd)
  have one4 : (jup h4 o 42 1) o 1 = 0 := by rw [ju_ne (by decide), b2.2 1 (by decide) (by decide) (by decide) (by decide) (by decide)]; exact one3
  by_cases c59 : spTx tp k = 59
  rotate_left
  · rw [if_neg c59]
    have hb4 : MBad o (jup h4 o 42 1) (1, k) := (b4 c59).fd (ju_ne (by decide)) (ju_ne (by decide))
    exact ⟨_, m_p103bad hb4, F4, one4, fun e he => by rw [← Sum.inl.inj he]; exact hb4, fun a b c n q he => (by cases he)⟩
  rw [if_pos c59]
  obtain ⟨h5, hh5⟩ : ∃ h5 : jH, h5 = jup h4 o 42 1 := ⟨_, rfl⟩
  rw [← hh5] at F4 one4 ⊢
  have go5 : ∀ z, z ≠ o → h5 z = h3 z := fun z z1 => by rw [hh5, jup_ne z1, b2.1 z z1]
  have s5 : MSs h5 o tp (spPk tp (k + 1)) g := (b3 c59).1.fd (by rw [hh5, jup_ne (by omega)]) (fun f hf => by rw [hh5, ju_ne (by omega)])
  have M5 : MJ h5 o tp (spPk tp (k + 1)) g (none, none, 0, []) := by
    refine ⟨s5, w2.e (fun z z1 z2 => by rw [go5 z (by omega), a2 z (by omega) (by omega)]), j2.e (fun z z1 z2 => by rw [go5 z (by omega), a2 z (by omega) (by omega)]), 0, ⟨?_, ?_, ?_, ?_, ?_, fun i v hv => by cases hv⟩, Nat.zero_le _⟩
    · rw [hh5, ju_ne (by decide), b2.2 41 (by decide) (by decide) (by decide) (by decide) (by decide), a3 41 (by decide) (by decide) (by decide) (by decide) (by decide), go2 o (by omega)]; exact f41
    · show h5 (o + 30) 0 = -1
      rw [go5 _ (by omega), a2 _ (by omega) (by omega)]; exact k0
    · show h5 (o + 30) 1 = -1
      rw [go5 _ (by omega), a2 _ (by omega) (by omega)]; exact k1
    · rw [go5 _ (by omega), a4 4 (by decide), go2 _ (by omega)]; exact c4
    · rw [go5 _ (by omega), a4 3 (by decide), go2 _ (by omega)]; exact c3
  obtain ⟨h6, d1, d2, d3, d4⟩ := m_jnl 40 1 _ g (none, none, 0, []) h5 (by decide) (by decide) (by decide) (by show 0 + 1 ≤ 1; decide) (by rw [hh5, ju_eq]; rfl) M5
  refine ⟨h6, d1, F4.tr d2.wd, by rw [d2.2.1 1 (by decide)]; exact one4, fun e he => ?_, fun a' b' c' n q he => ?_⟩
  · cases hq : spJnB tp 40 1 (spPk tp (k + 1)) g (none, none, 0, []) with
    | inl e1 => rw [hq] at he; cases he; exact d3 _ hq
    | inr y => rw [hq] at he; cases he
  · cases hq : spJnB tp 40 1 (spPk tp (k + 1)) g (none, none, 0, []) with
    | inl e1 => rw [hq] at he; cases he
    | inr y =>
      obtain ⟨n', q'⟩ := y
      rw [hq] at he
      cases he
      obtain ⟨z1, z2⟩ := d4 _ _ hq
      exact ⟨z1, by rw [d2.2.2.1 0 ⟨by decide, by decide⟩, go5 _ (by omega)]; exact x0, by rw [d2.2.2.1 1 ⟨by decide, by decide⟩, go5 _ (by omega)]; exact x1, by rw [d2.2.2.1 2 ⟨by decide, by decide⟩, go5 _ (by omega)]; exact x2, z2⟩
end MJT
