/-! a question: the reference reads it -/
/-- the words of the questions -/
def MWq (h : jH) (o : Nat) : Prop := MWo h (o + 43) spW7 ∧ MWo h (o + 44) spWlast ∧ MWo h (o + 45) spWoften ∧ MWo h (o + 46) spWtotal ∧ MWo h (o + 47) spWmost ∧ MWo h (o + 48) spWleast
theorem MWo.e {h h' : jH} {a : Nat} {w : List Int} (m : MWo h a w) (e : h' a = h a) : MWo h' a w := fun i hi => by rw [e]; exact m i hi
theorem MWq.e {h h' : jH} {o : Nat} (m : MWq h o) (e : ∀ z, o + 43 ≤ z → z ≤ o + 48 → h' z = h z) : MWq h' o := ⟨m.1.e (e _ (by omega) (by omega)), m.2.1.e (e _ (by omega) (by omega)), m.2.2.1.e (e _ (by omega) (by omega)), m.2.2.2.1.e (e _ (by omega) (by omega)), m.2.2.2.2.1.e (e _ (by omega) (by omega)), m.2.2.2.2.2.e (e _ (by omega) (by omega))⟩
noncomputable def mKd (o r n : Nat) (v : Int) (Y : jH → Option (Int × jH)) (h : jH) : Option (Int × jH) := Option.bind (M_takes h o r n) (fun b => (if b.1 = 0 then Y b.2 else M_qKind_p76 b.2 o v))
theorem mKd_eq {h : jH} {o : Nat} : M_qKind h o = mKd o (o + 43) 5 0 (mKd o (o + 44) 4 1 (mKd o (o + 45) 5 2 (mKd o (o + 46) 5 3 (mKd o (o + 47) 4 4 (fun h => M_qKind_p76 h o 5))))) h := rfl
/-- what reading a question may change -/
def MAq (o : Nat) (h h' : jH) : Prop := (∀ z, z ≠ o → z ≠ o + 65 → z ≠ o + 66 → h' z = h z) ∧ ∀ f, f ≠ 1 → f ≠ 2 → f ≠ 3 → f ≠ 4 → f ≠ 5 → f ≠ 6 → f ≠ 7 → f ≠ 8 → f ≠ 10 → f ≠ 44 → f ≠ 99 → f ≠ 101 → f ≠ 102 → f ≠ 103 → h' o f = h o f
theorem MAq.tr {o : Nat} {h h1 h2 : jH} (a : MAq o h h1) (b : MAq o h1 h2) : MAq o h h2 := ⟨fun z x y w => (b.1 z x y w).trans (a.1 z x y w), fun f x1 x2 x3 x4 x5 x6 x7 x8 x9 y1 y2 y3 y4 y5 => (b.2 f x1 x2 x3 x4 x5 x6 x7 x8 x9 y1 y2 y3 y4 y5).trans (a.2 f x1 x2 x3 x4 x5 x6 x7 x8 x9 y1 y2 y3 y4 y5)⟩
theorem MKg.q {o : Nat} {h h' : jH} (a : MKg o h h') : MAq o h h' := ⟨a.1, fun f _ x2 _ x4 x5 x6 _ _ x9 _ y2 y3 y4 y5 => a.2 f x2 x4 x5 x6 x9 y2 y3 y4 y5⟩
section MQY
variable {o : Nat} {tp : List Int} {k : Nat} {g : Int}
theorem m_kd {h : jH} {r n : Nat} {w : List Int} {v : Int} {Y : jH → Option (Int × jH)} (hv : v ≠ 5) (hr : r ≠ o) (hn : n = w.length) (hw : 1 ≤ w.length ∧ w.length ≤ 20) (hW : MWo h r w) (hs : MSs h o tp k g) : ∃ h', MFw o h h' ∧ (spWd tp g k w = true → mKd o r n v Y h = some (v, h') ∧ MSs h' o tp (spPk tp (k + w.length)) ((k + w.length : Nat) : Int)) ∧ (spWd tp g k w = false → mKd o r n v Y h = Y h' ∧ MSs h' o tp k g) := by
  obtain ⟨h1, a1, a2, a3, a4⟩ := m_takes hr hn hw hW hs
  unfold mKd
  rw [a1, Option.bind_some]
  refine ⟨h1, a2, fun c => ?_, fun c => ?_⟩
  · rw [c]; refine ⟨?_, a3 c⟩
    rw [if_pos (show true = true from rfl), if_neg (show ¬ (1 : Int) = 0 by decide)]
    unfold M_qKind_p76
    rw [if_neg hv]
  · rw [c]; exact ⟨by rw [if_neg (show ¬ false = true by decide), if_pos rfl], (a4 c).1⟩
theorem m_qKind {h : jH} (hw : MWq h o) (hs : MSs h o tp k g) : ∃ h' v, M_qKind h o = some (v, h') ∧ MFw o h h' ∧ (spQkd tp k g = none → MBad o h' (1, k)) ∧ ∀ kd e, spQkd tp k g = some (kd, e) → v = (kd : Int) ∧ MSs h' o tp (spPk tp e) (e : Int) := by
  rw [mKd_eq]
  unfold spQkd
  obtain ⟨w1, w2, w3, w4, w5, w6⟩ := hw
  obtain ⟨h1, a1, a2, a3⟩ := m_kd (v := 0) (n := 5) (Y := mKd o (o + 44) 4 1 (mKd o (o + 45) 5 2 (mKd o (o + 46) 5 3 (mKd o (o + 47) 4 4 (fun h => M_qKind_p76 h o 5))))) (by decide) (by omega) rfl (by decide) w1 hs
  cases c1 : spWd tp g k spW7 with
  | true =>
    obtain ⟨b1, b2⟩ := a2 c1
    rw [if_pos rfl]
    exact ⟨h1, 0, b1, a1, fun e => (by cases e), fun kd e he => by cases he; exact ⟨rfl, b2⟩⟩
  | false =>
  rw [if_neg (by decide)]
  obtain ⟨b1, b2⟩ := a3 c1
  rw [b1]
  obtain ⟨h2, d1, d2, d3⟩ := m_kd (v := 1) (n := 4) (Y := mKd o (o + 45) 5 2 (mKd o (o + 46) 5 3 (mKd o (o + 47) 4 4 (fun h => M_qKind_p76 h o 5)))) (by decide) (by omega) rfl (by decide) (w2.e (a1.1 _ (by omega))) b2
  have f2 := a1.tr d1
  cases c2 : spWd tp g k spWlast with
  | true =>
    obtain ⟨e1, e2⟩ := d2 c2
    rw [if_pos rfl]
    exact ⟨h2, 1, e1, f2, fun e => (by cases e), fun kd e he => by cases he; exact ⟨rfl, e2⟩⟩
  | false =>
  rw [if_neg (by decide)]
  obtain ⟨e1, e2⟩ := d3 c2
  rw [e1]
  obtain ⟨h3, i1, i2, i3⟩ := m_kd (v := 2) (n := 5) (Y := mKd o (o + 46) 5 3 (mKd o (o + 47) 4 4 (fun h => M_qKind_p76 h o 5))) (by decide) (by omega) rfl (by decide) (w3.e (f2.1 _ (by omega))) e2
  have f3 := f2.tr i1
  cases c3 : spWd tp g k spWoften with
  | true =>
    obtain ⟨j1, j2⟩ := i2 c3
    rw [if_pos rfl]
    exact ⟨h3, 2, j1, f3, fun e => (by cases e), fun kd e he => by cases he; exact ⟨rfl, j2⟩⟩
  | false =>
  rw [if_neg (by decide)]
  obtain ⟨j1, j2⟩ := i3 c3
  rw [j1]
  obtain ⟨h4, l1, l2, l3⟩ := m_kd (v := 3) (n := 5) (Y := mKd o (o + 47) 4 4 (fun h => M_qKind_p76 h o 5)) (by decide) (by omega) rfl (by decide) (w4.e (f3.1 _ (by omega))) j2
  have f4 := f3.tr l1
  cases c4 : spWd tp g k spWtotal with
  | true =>
    obtain ⟨m1, m2⟩ := l2 c4
    rw [if_pos rfl]
    exact ⟨h4, 3, m1, f4, fun e => (by cases e), fun kd e he => by cases he; exact ⟨rfl, m2⟩⟩
  | false =>
  rw [if_neg (by decide)]
  obtain ⟨m1, m2⟩ := l3 c4
  rw [m1]
  obtain ⟨h5, n1, n2, n3⟩ := m_kd (v := 4) (n := 4) (Y := fun h => M_qKind_p76 h o 5) (by decide) (by omega) rfl (by decide) (w5.e (f4.1 _ (by omega))) m2
  have f5 := f4.tr n1
  cases c5 : spWd tp g k spWmost with
  | true =>
    obtain ⟨q1, q2⟩ := n2 c5
    rw [if_pos rfl]
    exact ⟨h5, 4, q1, f5, fun e => (by cases e), fun kd e he => by cases he; exact ⟨rfl, q2⟩⟩
  | false =>
  rw [if_neg (by decide)]
  obtain ⟨q1, q2⟩ := n3 c5
  rw [q1]
  obtain ⟨h6, r1, r2, r3, r4⟩ := m_asksW (r := o + 48) (n := 5) (w := spWleast) (by omega) rfl (by decide) (w6.e (f5.1 _ (by omega))) q2
  have f6 := f5.tr r2
  have hp : M_qKind_p76 h5 o 5 = some (5, h6) := by
    unfold M_qKind_p76
    rw [if_pos rfl, r1, Option.bind_some]
  rw [hp]
  cases c6 : spWd tp g k spWleast with
  | true =>
    rw [if_pos rfl]
    exact ⟨h6, 5, rfl, f6, fun e => (by cases e), fun kd e he => by cases he; exact ⟨rfl, r3 c6⟩⟩
  | false =>
    rw [if_neg (by decide)]
    exact ⟨h6, 5, rfl, f6, fun _ => r4 c6, fun kd e he => (by cases he)⟩
theorem m_p133 {h : jH} {v : Int} : ∃ h', MAq o h h' ∧ h' o 7 = h o 5 ∧ h' o 8 = h o 6 ∧ (∀ f, f ≠ 7 → f ≠ 8 → h' o f = h o f) ∧ (∀ z, z ≠ o → h' z = h z) ∧ (h o 5 ≠ 0 → M_ask_p133 h o v = some ((-1000000000000000), h')) ∧ (h o 5 = 0 → M_ask_p133 h o v = M_ask_p173 h' o v o (if v < 2 then -1 else 0)) := by
  obtain ⟨g2, hg2⟩ : ∃ g2 : jH, g2 = jup (jup h o 7 (h o 5)) o 8 ((jup h o 7 (h o 5)) o 6) := ⟨_, rfl⟩
  have go : ∀ z, z ≠ o → g2 z = h z := fun z hz => by rw [hg2, jup_ne hz, jup_ne hz]
  have gf : ∀ f, f ≠ 7 → f ≠ 8 → g2 o f = h o f := fun f f7 f8 => by rw [hg2, ju_ne f8, ju_ne f7]
  refine ⟨g2, ⟨fun z z1 _ _ => go z z1, fun f _ _ _ _ _ _ f7 f8 _ _ _ _ _ _ => gf f f7 f8⟩, by rw [hg2, ju_ne (by decide), ju_eq], by rw [hg2, ju_eq, ju_ne (by decide)], gf, go, fun c => ?_, fun c => ?_⟩
  · unfold M_ask_p133
    rw [← hg2, if_neg (by rw [gf 5 (by decide) (by decide)]; exact c)]
  · unfold M_ask_p133
    rw [← hg2, if_pos (by rw [gf 5 (by decide) (by decide)]; exact c)]
    split <;> rfl
/-- behind a formula -/
theorem m_p109bad {h : jH} {v : Int} {e : Int × Nat} (hb : MBad o h e) : ∃ h', M_ask_p109 h o v = some ((-1000000000000000), h') ∧ MAq o h h' ∧ h' o 7 = e.1 ∧ h' o 8 = (e.2 : Int) ∧ h' o 1 = h o 1 := by
  obtain ⟨h', a1, a2, a3, a4, a5, a6, a7⟩ := m_p133 (o := o) (h := h) (v := v)
  have h5 : h o 5 ≠ 0 := by rw [hb.1]; exact hb.2.2
  refine ⟨h', ?_, a1, a2.trans hb.1, a3.trans hb.2.1, a4 1 (by decide) (by decide)⟩
  unfold M_ask_p109
  rw [if_neg h5, a6 h5]
theorem m_ask0 {h : jH} (h43 : h o 43 ≠ 0) (hL : CTa h o tp) (hby : spByt tp) (hw : MWd h o) (hq : MWq h o) : ∃ h', MAq o h h' ∧ h' o 1 = 0 ∧ (∀ e, spQry tp = .inl e → M_ask h o = some ((-1000000000000000), h') ∧ h' o 7 = e.1 ∧ h' o 8 = (e.2 : Int)) ∧ ∀ kd K, spQry tp = .inr (kd, K) → M_ask h o = M_ask_p173 h' o (kd : Int) o (if (kd : Int) < 2 then -1 else 0) ∧ h' o 7 = 0 ∧ h' o 8 = -1 ∧ K.length ≤ 1600 ∧ h' o 99 = (K.length : Int) ∧ ∀ (i : Nat) (c : Int), K[i]? = some c → h' (o + 65) i = c := by
  obtain ⟨l1, l2, l3⟩ := hL
  obtain ⟨h1, hh1⟩ : ∃ h1 : jH, h1 = jup (jup (jup (jup (jup (jup h o 3 (h o 1)) o 1 0) o 2 0) o 4 (-1)) o 5 0) o 6 (-1) := ⟨_, rfl⟩
  have go1 : ∀ z, z ≠ o → h1 z = h z := fun z z1 => by rw [hh1, jup_ne z1, jup_ne z1, jup_ne z1, jup_ne z1, jup_ne z1, jup_ne z1]
  have s1 : MSs h1 o tp (spPk tp 0) (-1) := by
    refine ⟨⟨?_, l2, hby, fun j v hv => by rw [go1 _ (by omega)]; exact l3 j v hv⟩, ⟨0, ?_, Nat.zero_le _, rfl, ?_⟩, ?_, ?_⟩
    · rw [hh1, ju_ne (by decide), ju_ne (by decide), ju_ne (by decide), ju_ne (by decide), ju_ne (by decide), ju_eq]; exact l1
    · rw [hh1, ju_ne (by decide), ju_ne (by decide), ju_ne (by decide), ju_eq]; rfl
    · rw [hh1, ju_eq]
    · rw [hh1, ju_ne (by decide), ju_ne (by decide), ju_eq]
    · rw [hh1, ju_ne (by decide), ju_eq]
  have one1 : h1 o 1 = 0 := by rw [hh1, ju_ne (by decide), ju_ne (by decide), ju_ne (by decide), ju_ne (by decide), ju_eq]
  obtain ⟨s2, -, t1, t2⟩ := mStart_k (md := 2) s1 (hw.e (fun z z1 z2 => go1 z (by omega)))
  have q2 : MWq (mStart o 2 h1) o := hq.e (fun z z1 z2 => by rw [show mStart o 2 h1 z = h1 z from t1 z (by omega), go1 z (by omega)])
  have F1 : MAq o h (mStart o 2 h1) := ⟨fun z z1 _ _ => by rw [show mStart o 2 h1 z = h1 z from t1 z z1, go1 z z1], fun f f1 f2 f3 f4 f5 f6 _ _ _ y1 y2 y3 y4 y5 => by rw [show mStart o 2 h1 o f = h1 o f from t2 f y1 y2 y3 y4 y5, hh1, ju_ne f6, ju_ne f5, ju_ne f4, ju_ne f2, ju_ne f1, ju_ne f3]⟩
  obtain ⟨g1, v, a1, a2, a3, a4⟩ := m_qKind q2 s2.1
  have hst : M_ask h o = (if g1 o 5 = 0 then (if v < 3 then Option.bind (M_qTest g1 o) (fun b5 => M_ask_p109 b5 o v) else M_ask_p98 g1 o v) else M_ask_p98 g1 o v) := by
    unfold M_ask
    rw [if_neg h43, ← hh1, show jup (jup (jup (jup (jup h1 o 44 2) o 99 0) o 101 0) o 102 0) o 103 0 = mStart o 2 h1 from rfl, a1, Option.bind_some]
  have F2 := F1.tr a2.k.q
  have one2 : g1 o 1 = 0 := by rw [a2.2 1 (by decide) (by decide) (by decide) (by decide) (by decide), show mStart o 2 h1 o 1 = h1 o 1 from t2 1 (by decide) (by decide) (by decide) (by decide) (by decide)]; exact one1
  have bad : ∀ (b : jH) (w : Int) (er : Int × Nat), MAq o h b → b o 1 = 0 → MBad o b er → ∃ h', M_ask_p109 b o w = some ((-1000000000000000), h') ∧ MAq o h h' ∧ h' o 1 = 0 ∧ h' o 7 = er.1 ∧ h' o 8 = (er.2 : Int) := fun b w er x1 x2 x3 => by
    obtain ⟨h', y1, y2, y3, y4, y5⟩ := m_p109bad (v := w) x3
    exact ⟨h', y1, x1.tr y2, y5.trans x2, y3, y4⟩
  unfold spQry
  cases hk : spQkd tp (spPk tp 0) (-1) with
  | none =>
    have hb := a3 hk
    have h5 : g1 o 5 ≠ 0 := by rw [hb.1]; exact hb.2.2
    obtain ⟨h', y1, y2, y3, y4, y5⟩ := bad g1 v _ F2 one2 hb
    rw [if_neg h5] at hst
    unfold M_ask_p98 at hst
    rw [if_neg h5, y1] at hst
    exact ⟨h', y2, y3, fun e he => by cases he; exact ⟨hst, y4, y5⟩, fun kd K he => (by cases he)⟩
  | some x =>
  obtain ⟨kd, e⟩ := x
  obtain ⟨rfl, x1⟩ := a4 kd e hk
  rw [if_pos x1.2.2.2] at hst
  have hek : e ≤ spPk tp e := (spPk_in e).1
  have K1 : MK g1 o tp 2 (spPk tp e) (e : Int) 0 0 [] [] := by
    obtain ⟨z1, z2, z3, z4, z5, ⟨⟨z6, z7⟩, z8, z9⟩, z10⟩ := s2
    refine ⟨x1, z2.fr (fun z y1 _ _ => a2.1 z y1), by rw [a2.2 44 (by decide) (by decide) (by decide) (by decide) (by decide)]; exact z3, by rw [a2.2 102 (by decide) (by decide) (by decide) (by decide) (by decide)]; exact z4, by rw [a2.2 103 (by decide) (by decide) (by decide) (by decide) (by decide)]; exact z5, ⟨⟨by rw [a2.2 101 (by decide) (by decide) (by decide) (by decide) (by decide)]; exact z6, fun i v hv => by cases hv⟩, by rw [a2.2 99 (by decide) (by decide) (by decide) (by decide) (by decide)]; exact z8, fun i v hv => by cases hv⟩, Nat.zero_le _⟩
  have hR : ∃ X : Option jH, M_ask h o = Option.bind X (fun b => M_ask_p109 b o (kd : Int)) ∧ (∀ er, spQrf tp kd (spPk tp e) (e : Int) = .inl er → ∃ g2, X = some g2 ∧ MKg o g1 g2 ∧ MBad o g2 er) ∧ ∀ k2 g2 K, spQrf tp kd (spPk tp e) (e : Int) = .inr (k2, g2, K) → ∃ h', X = some h' ∧ MKg o g1 h' ∧ MK h' o tp 2 k2 g2 0 0 [] K := by
    by_cases c : kd ≤ 2
    · rw [if_pos (by omega)] at hst
      obtain ⟨m1, m2⟩ := mTestW (Or.inr (Or.inr rfl)) K1
      refine ⟨_, hst, fun er he => ?_, fun k2 g2 K he => ?_⟩
      · unfold spQrf at he; rw [if_pos c] at he; exact m1 er he
      · unfold spQrf at he; rw [if_pos c] at he; exact m2 k2 g2 K he
    · rw [if_neg (by omega)] at hst
      unfold M_ask_p98 at hst
      rw [if_pos x1.2.2.2] at hst
      obtain ⟨m1, m2⟩ := mSumsW (Or.inr (Or.inr rfl)) K1
      refine ⟨_, hst, fun er he => ?_, fun k2 g2 K he => ?_⟩
      · unfold spQrf at he; rw [if_neg c] at he
        obtain ⟨g2, n1, n2, n3, -⟩ := m1 er he
        exact ⟨g2, n1, n2, n3⟩
      · unfold spQrf at he; rw [if_neg c] at he; exact m2 k2 g2 K he
  obtain ⟨X, y1, y2, y3⟩ := hR
  have onek : ∀ b : jH, MKg o g1 b → b o 1 = 0 := fun b hb => by rw [hb.2 1 (by decide) (by decide) (by decide) (by decide) (by decide) (by decide) (by decide) (by decide) (by decide)]; exact one2
  dsimp only
  cases hr : spQrf tp kd (spPk tp e) (e : Int) with
  | inl er =>
    obtain ⟨g2, b1, b2, b3⟩ := y2 er hr
    rw [b1, Option.bind_some] at y1
    obtain ⟨h', c1, c2, c3, c4, c5⟩ := bad g2 (kd : Int) _ (F2.tr b2.q) (onek g2 b2) b3
    rw [c1] at y1
    exact ⟨h', c2, c3, fun e he => by cases he; exact ⟨y1, c4, c5⟩, fun kd K he => (by cases he)⟩
  | inr z =>
  obtain ⟨k3, g3', K⟩ := z
  obtain ⟨g2, b1, b2, b3⟩ := y3 k3 g3' K hr
  rw [b1, Option.bind_some] at y1
  obtain ⟨z1, z2, z3, z4, z5, ⟨⟨z6, z7⟩, z8, z9⟩, z10⟩ := b3
  obtain ⟨g4, d1, d2, d3, d4, d5⟩ := m_look z1
  unfold M_ask_p109 at y1
  rw [if_pos z1.2.2.2, d1, Option.bind_some] at y1
  have F4 := (F2.tr b2.q).tr d2.k.q
  have one4 : g4 o 1 = 0 := by rw [d5 1 (by decide)]; exact onek g2 b2
  dsimp only at y1 ⊢
  by_cases c : spTx tp k3 = -1
  · rw [if_pos c] at y1
    rw [if_pos c]
    obtain ⟨h', u1, u2, u3, u4, u5, u6, u7⟩ := m_p133 (o := o) (h := g4) (v := (kd : Int))
    rw [u7 d4.2.2.2] at y1
    refine ⟨h', F4.tr u1, by rw [u4 1 (by decide) (by decide)]; exact one4, fun e he => (by cases he), fun kd' K' he => ?_⟩
    cases he
    obtain ⟨⟨m1, m2, m3, m4⟩, ⟨m5, n1, n2, n3, n4⟩, m6, m7⟩ := d4
    have hk3 : k3 ≤ 1600 := by rw [← n3]; exact Nat.le_trans ((spPk_in m5).2 n2) m2
    have hKl : ([] : List Int).length + K.length ≤ k3 := z10
    rw [List.length_nil] at hKl
    exact ⟨y1, u2.trans m7, u3.trans n4, by omega, by rw [u4 99 (by decide) (by decide), d5 99 (by decide)]; exact z8, fun i c hc => by rw [u5 _ (by omega), d2.1 _ (by omega)]; exact z9 i c hc⟩
  · rw [if_neg c, d3] at y1
    rw [if_neg c]
    obtain ⟨g5, f1, f2, f3, f4⟩ := m_failAt (o := o) (h := g4) (e := (1, k3)) d4.2.2.2 (show (1 : Int) ≠ 0 by decide)
    rw [show M_fail g4 o 1 (k3 : Int) = _ from f1, Option.bind_some] at y1
    obtain ⟨h', u1, u2, u3, u4, u5, u6, u7⟩ := m_p133 (o := o) (h := g5) (v := (kd : Int))
    have h5 : g5 o 5 ≠ 0 := by rw [f3.1]; exact f3.2.2
    rw [u6 h5] at y1
    exact ⟨h', (F4.tr f2.k.q).tr u1, by rw [u4 1 (by decide) (by decide), f2.2 1 (by decide) (by decide) (by decide) (by decide) (by decide)]; exact one4, fun e he => by cases he; exact ⟨y1, u2.trans f3.1, u3.trans f3.2.1⟩, fun kd' K' he => (by cases he)⟩
end MQY
