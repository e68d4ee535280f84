/-! reading a formula: the class's facts; all of it -/
section PAL
variable {T : jT} {P tq : Nat} {tp : List Int} {fo md op : Nat}
theorem r_negation {rec : jRec} {inner : Option spF} (hI : (op = 6 ∧ inner = none) ∨ (op < 6 ∧ ∃ R, inner = some R ∧ spGr tp R ∧ PRd T P tq tp fo md (op + 1) (fun h => rec.2.2.1 h P) R)) {h : jH} {k b : Nat} {g : Int} {K : List Int} (hs : PSt T h P tq tp fo md k g op K) (hK : K.length + 1 ≤ k) : ∃ h' v, Pa_negation_b T rec h P (b : Int) = some (v, h') ∧ PRs T P tq tp fo md op K (spOf inner b k g 12) h h' v := by
  have hne := hs.ne
  have hne2 := hs.2.1.1.2.2.2.2.1
  obtain ⟨o1, o2⟩ := c_opens (b := b) hs
  unfold Pa_negation_b Pa_negation_p26 Pa_negation_p27 spOf
  rcases hI with ⟨h6, rfl⟩ | ⟨h6, R, rfl, hG, hP⟩
  · obtain ⟨h1, e1, e2, e3⟩ := o2 (by omega)
    rw [e1, Option.bind_some]
    dsimp only
    rw [if_pos (show (0 : Int) = 0 from rfl), e2.dyn hs, Option.bind_some]
    obtain ⟨h2, y1, y2, y3⟩ := e3.emit (v := 20000) hne hne2
    rw [y1, Option.bind_some, if_pos (Or.inl rfl)]
    exact ⟨h2, 0, rfl, PRs.bad (e2.tr y2) y3⟩
  · obtain ⟨h1, e1, e2, e3, -⟩ := o1 h6
    rw [e1, Option.bind_some]
    dsimp only
    rw [if_neg (show ¬ (1 : Int) = 0 by decide)]
    obtain ⟨h2, v, x1, x2, x3, x4⟩ := hP h1 k g K e3
    have x1' : rec.2.2.1 h1 P = some (v, h2) := x1
    rw [x1', Option.bind_some]
    dsimp only
    cases hr : R k g with
    | inl e =>
      obtain ⟨rfl, hb⟩ := x3 e hr
      rw [if_pos (show (0 : Int) = 0 from rfl), (e2.tr x2).dyn hs, Option.bind_some]
      obtain ⟨h3, y1, y2, y3⟩ := hb.emit (v := 20000) hne hne2
      rw [y1, Option.bind_some, if_pos (Or.inl rfl)]
      exact ⟨h3, 0, rfl, PRs.bad ((e2.tr x2).tr y2) y3⟩
    | inr y =>
      obtain ⟨k1, g1, K1⟩ := y
      obtain ⟨rfl, hst⟩ := x4 k1 g1 K1 hr
      have hgr := hG _ _ _ _ _ hr
      rw [if_neg (show ¬ (1 : Int) = 0 by decide)]
      obtain ⟨h3, z1, z2, z3⟩ := c_ends (by omega) hst
      rw [z1, Option.bind_some]
      dsimp only
      rw [if_neg (show ¬ (1 : Int) = 0 by decide), z3.dyn, Option.bind_some]
      obtain ⟨h4, y1, y2, y3⟩ := z3.emit (c := 12) (by rw [List.length_append]; omega)
      rw [show (20000 : Int) = spTr 12 from rfl, y1, Option.bind_some, if_pos (Or.inr rfl)]
      rw [List.append_assoc] at y3
      exact ⟨h4, 1, rfl, PRs.good (((e2.tr x2).tr z2).tr y2) y3⟩
theorem r_fact {rec : jRec} {R : spF} {inner : Option spF} (hG : spGr tp R) (hS : PRd T P tq tp fo md op (fun h => rec.2.2.2.2.1 h P) (spSms tp R))
    (hI : (op = 6 ∧ inner = none) ∨ (op < 6 ∧ ∃ F, inner = some F ∧ spGr tp F ∧ PRd T P tq tp fo md (op + 1) (fun h => rec.1 h P) (spTest tp F)))
    (hneg : ∀ (h : jH) (k b : Nat) (g : Int) (K : List Int), PSt T h P tq tp fo md k g op K → K.length + 1 ≤ k → ∃ h' v, rec.2.2.2.1 h P (b : Int) = some (v, h') ∧ PRs T P tq tp fo md op K (spOf inner b k g 12) h h' v) :
    PRd T P tq tp fo md op (fun h => Pa_fact_b T rec h P) (spFactS tp R inner) := by
  intro h k g K hs
  have hne := hs.ne
  have hne2 := hs.2.1.1.2.2.2.2.1
  have hK := hs.2.2
  show ∃ h' v, Pa_fact_b T rec h P = some (v, h') ∧ _
  obtain ⟨h1, a1, a2, a3, a4⟩ := hs.peek
  unfold Pa_fact_b spFactS Pa_fact_p69
  rw [a1, Option.bind_some]
  dsimp only
  obtain ⟨h2, b1, b2, b3, b4⟩ := a3.word (w := spWnot) (by decide)
  have f2 := a2.tr b2
  rw [show Pa_word T h1 P [110, 111, 116] = _ from b1, Option.bind_some, a4]
  dsimp only
  by_cases c0 : spWd tp g k spWnot = true
  · rw [if_pos c0, if_neg (show ¬ (1 : Int) = 0 by decide), if_pos c0]
    have hpk := (spPk_in (tp := tp) (k + 3)).1
    have s2 : PSt T h2 P tq tp fo md (spPk tp (k + 3)) ((k + 3 : Nat) : Int) op K := b3 c0
    obtain ⟨h3, v, x1, x2⟩ := hneg h2 _ k _ K s2 (by omega)
    have hv : v = 0 ∨ v = 1 := by
      cases hr : spOf inner k (spPk tp (k + 3)) ((k + 3 : Nat) : Int) 12 with
      | inl e => exact Or.inl (x2.2.1 e hr).1
      | inr y => exact Or.inr (x2.2.2 _ _ _ hr).1
    rw [x1, Option.bind_some]
    dsimp only
    rw [if_pos hv]
    refine ⟨h3, v, rfl, ?_⟩
    have x3 := x2.fr f2
    cases inner with
    | none => exact x3
    | some F => exact x3
  rw [if_neg c0, if_pos (show (0 : Int) = 0 from rfl), if_neg c0]
  have s2 := (b4 (Bool.eq_false_iff.mpr c0)).1
  obtain ⟨h3, d1, d2, d3, d4⟩ := s2.sign (c := 91) (by decide)
  have f3 := f2.tr d2
  rw [d1, Option.bind_some]
  dsimp only
  by_cases c1 : spTx tp k = 91
  · rw [if_pos c1, if_neg (show ¬ (1 : Int) = 0 by decide), if_pos c1]
    rw [if_pos c1] at d3
    obtain ⟨o1, o2⟩ := c_opens (b := k) d3
    rcases hI with ⟨h6, rfl⟩ | ⟨h6, F, rfl, hGF, hT⟩
    · obtain ⟨h4, e1, e2, e3⟩ := o2 (by omega)
      rw [e1, Option.bind_some]
      dsimp only
      rw [if_pos (show (0 : Int) = 0 from rfl)]
      exact ⟨h4, 0, rfl, PRs.bad (f3.tr e2) e3⟩
    obtain ⟨h4, e1, e2, e3, -⟩ := o1 h6
    rw [e1, Option.bind_some]
    dsimp only
    rw [if_neg (show ¬ (1 : Int) = 0 by decide)]
    obtain ⟨h5, v, x1, x2⟩ := hT h4 _ g K e3
    have x1' : rec.1 h4 P = some (v, h5) := x1
    rw [x1', Option.bind_some]
    dsimp only
    have x3 := x2.fr (f3.tr e2)
    rcases x3.close (c := 93) (by decide) (by omega) with ⟨rfl, e, w1, w2⟩ | ⟨rfl, h6', ⟨e, w1, w2, w3, w4⟩ | ⟨k4, g4, K4, w1, w2, w3, w4⟩⟩
    · rw [if_pos (show (0 : Int) = 0 from rfl), w1]
      exact ⟨h5, 0, rfl, PRs.bad x3.1 w2⟩
    · rw [if_neg (show ¬ (1 : Int) = 0 by decide), w1, Option.bind_some]
      dsimp only
      rw [if_pos (show (0 : Int) = 0 from rfl), w2]
      exact ⟨h6', 0, rfl, PRs.bad w3 w4⟩
    rw [if_neg (show ¬ (1 : Int) = 0 by decide), w1, Option.bind_some]
    dsimp only
    rw [if_neg (show ¬ (1 : Int) = 0 by decide), w2]
    obtain ⟨h7, z1, z2, z3⟩ := c_ends (by omega) w4
    rw [z1, Option.bind_some]
    dsimp only
    rw [if_neg (show ¬ (1 : Int) = 0 by decide)]
    exact ⟨h7, 1, rfl, PRs.good (w3.tr z2) z3⟩
  rw [if_neg c1, if_pos (show (0 : Int) = 0 from rfl), if_neg c1]
  rw [if_neg c1] at d3
  obtain ⟨h4, e1, e2, e3, e4⟩ := d3.word (w := spWall) (by decide)
  have f4 := f3.tr e2
  rw [show Pa_word T h3 P [97, 108, 108] = _ from e1, Option.bind_some]
  dsimp only
  by_cases c2 : spWd tp g k spWall = true
  · rw [if_pos c2, if_neg (show ¬ (1 : Int) = 0 by decide), if_pos c2]
    have hpk := (spPk_in (tp := tp) (k + 3)).1
    have s4 : PSt T h4 P tq tp fo md (spPk tp (k + 3)) ((k + 3 : Nat) : Int) op K := e3 c2
    rw [s4.dyn, Option.bind_some]
    obtain ⟨h5, y1, y2, y3⟩ := s4.emit (c := 13) (by omega)
    rw [show (1 : Int) = spTr 13 from rfl] 
    rw [y1, Option.bind_some]
    exact ⟨h5, 1, rfl, PRs.good (f4.tr y2) y3⟩
  rw [if_neg c2, if_pos (show (0 : Int) = 0 from rfl), if_neg c2]
  have s4 := (e4 (Bool.eq_false_iff.mpr c2)).1
  unfold spCmp
  obtain ⟨h5, v, x1, x2, x3, x4⟩ := hS h4 k g K s4
  have x1' : rec.2.2.2.2.1 h4 P = some (v, h5) := x1
  have f5 := f4.tr x2
  rw [x1', Option.bind_some]
  dsimp only
  cases hr : spSms tp R k g with
  | inl e =>
    obtain ⟨rfl, hb⟩ := x3 e hr
    rw [if_pos (show (0 : Int) = 0 from rfl)]
    exact ⟨h5, 0, rfl, PRs.bad f5 hb⟩
  | inr y =>
    obtain ⟨k1, g1, K1⟩ := y
    obtain ⟨rfl, hst⟩ := x4 k1 g1 K1 hr
    have hgr := spSms_gr hG _ _ _ _ _ hr
    rw [if_neg (show ¬ (1 : Int) = 0 by decide)]
    obtain ⟨h6, p1, p2, p3, p4⟩ := hst.peek
    rw [p1, Option.bind_some]
    dsimp only
    have f6 := f5.tr p2
    by_cases c3 : spTx tp k1 = 60 ∨ spTx tp k1 = 62 ∨ spTx tp k1 = 61
    rotate_left
    · rw [if_neg (fun e => c3 (Or.inl e)), if_neg (fun e => c3 (Or.inr (Or.inl e))), if_neg (fun e => c3 (Or.inr (Or.inr e))), if_neg c3, p4]
      obtain ⟨h7, q1, q2, q3⟩ := c_failAt (P := P) (h := h6) (e := (1, k1))
      rw [show Pa_fail h6 P 1 (k1 : Int) = _ from q1, Option.bind_some]
      dsimp only
      rw [if_pos (Or.inl rfl)]
      exact ⟨h7, 0, rfl, PRs.bad (f6.tr (q2.g hne)) q3⟩
    rw [if_pos c3]
    have hk1 : k1 < tp.length := by rcases c3 with c | c | c; exact spByt_neg c (by decide); exact spByt_neg c (by decide); exact spByt_neg c (by decide)
    obtain ⟨hf7, s7⟩ := p3.next p4 hk1
    obtain ⟨h8, v8, z1, z2⟩ := hS _ _ _ _ s7
    have f7 := f6.tr (hf7.g hne)
    have z3 : PRs T P tq tp fo md op (K ++ K1) (spSms tp R (spPk tp (k1 + 1)) g1) h h8 v8 := z2.fr f7
    have hpk1 := (spPk_in (tp := tp) (k1 + 1)).1
    obtain ⟨h9, y1, y2, y3⟩ := PRs.emt (k := k) (c := if spTx tp k1 = 60 then 7 else if spTx tp k1 = 62 then 8 else 9) (fun k2 g2 K2 he => by
      have := spSms_gr hG _ _ _ _ _ he
      rw [List.length_append]
      omega) ⟨hne, hne2⟩ z3
    have hdy := z3.1.dyn hs
    have hp132 : Pa_fact_p132 T rec h6 P (spTx tp k1) = some (v8, h9) := by
      unfold Pa_fact_p132 Pa_fact_p178
      have z1' : rec.2.2.2.2.1 (jup h6 P 7 (wr (h6 P 7 + 1))) P = some (v8, h8) := z1
      rw [z1', Option.bind_some]
      dsimp only
      rw [hdy, Option.bind_some]
      by_cases d1 : spTx tp k1 = 60
      · rw [if_pos d1] at y1 ⊢
        rw [show (30002 : Int) = spTr 7 from rfl, y1, Option.bind_some, if_pos y3]
      · rw [if_neg d1] at y1 ⊢
        by_cases d2 : spTx tp k1 = 62
        · rw [if_pos d2] at y1 ⊢
          rw [show (30003 : Int) = spTr 8 from rfl, y1, Option.bind_some, if_pos y3]
        · rw [if_neg d2] at y1 ⊢
          rw [show (30004 : Int) = spTr 9 from rfl, y1, Option.bind_some, if_pos y3]
    rw [hp132]
    refine ⟨h9, v8, ?_, PRs.seq PFg.rf y2⟩
    by_cases d1 : spTx tp k1 = 60
    · rw [if_pos d1]
    · rw [if_neg d1]
      by_cases d2 : spTx tp k1 = 62
      · rw [if_pos d2]
      · rw [if_neg d2, if_pos (by rcases c3 with c | c | c; exact absurd c d1; exact absurd c d2; exact c)]
theorem R_part (hmd : md = 0 ∨ md = 1 ∨ md = 2) : ∀ r n op, op + r = 6 → 4 * r + 1 ≤ n → PRd T P tq tp fo md op (fun h => Pa_part_b T (jrecN T n) h P) (spPart tp md r) := by
  intro r
  induction r with
  | zero =>
    intro n op hop hn
    obtain ⟨m, rfl⟩ : ∃ m, n = m + 1 := ⟨n - 1, by omega⟩
    have hI : ∀ FS FP, PIn T P tq tp fo md op none FS FP := fun FS FP => Or.inl ⟨by omega, rfl⟩
    exact r_part hmd (hI _ _) (fun h k g c K hs => r_ofPair (rec := jrecN T m) (FP := fun _ => none) (hI _ _) hs) (fun h k b g c K hs hK => by
      have := r_ofPart (rec := jrecN T m) (FS := fun _ => none) (b := b) (c := c) (hI _ _) hs hK
      exact this)
  | succ r ih =>
    intro n op hop hn
    obtain ⟨m, rfl⟩ : ∃ m, n = m + 4 := ⟨n - 4, by omega⟩
    have hG : spGr tp (spPart tp md r) := spPart_gr r
    have hp : ∀ n', 4 * r + 1 ≤ n' → PRd T P tq tp fo md (op + 1) (fun h => (jrecN T (n' + 1)).2.2.2.2.2.2.1 h P) (spPart tp md r) := fun n' h' => ih n' (op + 1) (by omega) h'
    have hs : ∀ n', 4 * r + 1 ≤ n' → PRd T P tq tp fo md (op + 1) (fun h => (jrecN T (n' + 3)).2.2.2.2.1 h P) (spSms tp (spPart tp md r)) := fun n' h' => r_sum (rec := jrecN T (n' + 2)) (r_prod (rec := jrecN T (n' + 1)) (hp n' h') hG) hG
    have hI : ∀ n', 4 * r + 1 ≤ n' → PIn T P tq tp fo md op (some (spPart tp md r)) (fun h => (jrecN T (n' + 3)).2.2.2.2.1 h P) (fun h => (jrecN T (n' + 3)).2.2.2.2.2.2.1 h P) := fun n' h' => Or.inr ⟨by omega, _, rfl, hG, hs n' h', hp (n' + 2) (by omega)⟩
    exact r_part hmd (hI (m + 1) (by omega)) (fun h k g c K hs => r_ofPair (rec := jrecN T (m + 3)) (hI m (by omega)) hs) (fun h k b g c K hs hK => by
      have := r_ofPart (rec := jrecN T (m + 3)) (b := b) (c := c) (hI m (by omega)) hs hK
      exact this)
theorem R_sum (hmd : md = 0 ∨ md = 1 ∨ md = 2) {r n op : Nat} (hop : op + r = 6) (hn : 4 * r + 3 ≤ n) : PRd T P tq tp fo md op (fun h => Pa_sum_b T (jrecN T n) h P) (spSms tp (spPart tp md r)) := by
  obtain ⟨m, rfl⟩ : ∃ m, n = m + 2 := ⟨n - 2, by omega⟩
  exact r_sum (rec := jrecN T (m + 2)) (r_prod (rec := jrecN T (m + 1)) (R_part hmd r m op hop (by omega)) (spPart_gr r)) (spPart_gr r)
theorem R_fact (hmd : md = 0 ∨ md = 1 ∨ md = 2) : ∀ r n op, op + r = 6 → 4 * r + 4 ≤ n → PRd T P tq tp fo md op (fun h => Pa_fact_b T (jrecN T n) h P) (spFact tp md r) := by
  intro r
  induction r with
  | zero =>
    intro n op hop hn
    obtain ⟨m, rfl⟩ : ∃ m, n = m + 1 := ⟨n - 1, by omega⟩
    exact r_fact (rec := jrecN T (m + 1)) (spPart_gr 0) (R_sum hmd (r := 0) (n := m) hop (by omega)) (Or.inl ⟨by omega, rfl⟩) (fun h k b g K hs hK => r_negation (rec := jrecN T m) (Or.inl ⟨by omega, rfl⟩) hs hK)
  | succ r ih =>
    intro n op hop hn
    obtain ⟨m, rfl⟩ : ∃ m, n = m + 3 := ⟨n - 3, by omega⟩
    have hG : spGr tp (spFact tp md r) := spFact_gr r
    have hf : ∀ n', 4 * r + 4 ≤ n' → PRd T P tq tp fo md (op + 1) (fun h => (jrecN T (n' + 1)).2.2.1 h P) (spFact tp md r) := fun n' h' => ih n' (op + 1) (by omega) h'
    have ht : PRd T P tq tp fo md (op + 1) (fun h => (jrecN T (m + 3)).1 h P) (spTest tp (spFact tp md r)) := r_test (rec := jrecN T (m + 2)) (r_both (rec := jrecN T (m + 1)) (hf m (by omega)) hG) hG
    exact r_fact (rec := jrecN T (m + 3)) (spPart_gr (r + 1)) (R_sum hmd (r := r + 1) (n := m + 2) hop (by omega)) (Or.inr ⟨by omega, _, rfl, hG, ht⟩) (fun h k b g K hs hK => r_negation (rec := jrecN T (m + 2)) (Or.inr ⟨by omega, _, rfl, hG, hf (m + 1) (by omega)⟩) hs hK)
/-- a sum, a test, read by the class from nothing open -/
theorem R_sumW (hmd : md = 0 ∨ md = 1 ∨ md = 2) : PRd T P tq tp fo md 0 (fun h => (jrecW T).2.2.2.2.1 h P) (spSms tp (spPart tp md 6)) := R_sum (r := 6) (n := 79) hmd rfl (by decide)
theorem R_testW (hmd : md = 0 ∨ md = 1 ∨ md = 2) : PRd T P tq tp fo md 0 (fun h => (jrecW T).1 h P) (spTest tp (spFact tp md 6)) := r_test (rec := jrecN T 79) (r_both (rec := jrecN T 78) (R_fact hmd 6 77 0 rfl (by decide)) (spFact_gr 6)) (spFact_gr 6)
end PAL
