/-! reading a formula: the class's parts and facts -/
section PAJ
variable {T : jT} {P tq : Nat} {tp : List Int} {fo md op : Nat}
/-- a code behind what was read -/
theorem PRs.emt {h h1 : jH} {K : List Int} {res : spR} {v c : Int} {k : Nat} (hG : ∀ k2 g2 K2, res = .inr (k2, g2, K2) → K.length + K2.length + 1 ≤ k2) (hne : fo ≠ P ∧ fo + 1 ≠ P) (hr : PRs T P tq tp fo md op K res h h1 v) : ∃ h2, Fo_emit h1 fo (spTr c) = some h2 ∧ PRs T P tq tp fo md op K (spEmt [c] res) h h2 v ∧ (v = 0 ∨ v = 1) := by
  obtain ⟨r1, r2, r3⟩ := hr
  cases res with
  | inl e =>
    obtain ⟨rfl, hb⟩ := r2 e rfl
    obtain ⟨h2, y1, y2, y3⟩ := hb.emit (v := spTr c) hne.1 hne.2
    exact ⟨h2, y1, PRs.bad (r1.tr y2) y3, Or.inl rfl⟩
  | inr y =>
    obtain ⟨k1, g1, K1⟩ := y
    obtain ⟨rfl, hst⟩ := r3 k1 g1 K1 rfl
    obtain ⟨h2, y1, y2, y3⟩ := hst.emit (c := c) (by rw [List.length_append]; exact hG k1 g1 K1 rfl)
    rw [List.append_assoc] at y3
    exact ⟨h2, y1, PRs.good (r1.tr y2) y3, Or.inr rfl⟩
/-- what opens within -/
def PIn (T : jT) (P tq : Nat) (tp : List Int) (fo md op : Nat) (inner : Option spF) (FS FP : jH → Option (Int × jH)) : Prop := (op = 6 ∧ inner = none) ∨ (op < 6 ∧ ∃ R, inner = some R ∧ spGr tp R ∧ PRd T P tq tp fo md (op + 1) FS (spSms tp R) ∧ PRd T P tq tp fo md (op + 1) FP R)
theorem r_ofPart {rec : jRec} {inner : Option spF} {FS : jH → Option (Int × jH)} (hI : PIn T P tq tp fo md op inner FS (fun h => rec.2.2.2.2.2.2.1 h P)) {h : jH} {k b : Nat} {g c : Int} {K : List Int} (hs : PSt T h P tq tp fo md k g op K) (hK : K.length + 1 ≤ k) : ∃ h' v, Pa_ofPart_b T rec h P (spTr c) (b : Int) = some (v, h') ∧ PRs T P tq tp fo md op K (match inner with | none => .inl (4, b) | some R => spEmt [c] (R k g)) h h' v := by
  have hne := hs.ne
  have hne2 := hs.2.1.1.2.2.2.2.1
  obtain ⟨o1, o2⟩ := c_opens (b := b) hs
  have hdy := hs.dyn
  unfold Pa_ofPart_b Pa_ofPart_p26 Pa_ofPart_p27
  rcases hI with ⟨h6, rfl⟩ | ⟨h6, R, rfl, hG, -, hP⟩
  · obtain ⟨h1, e1, e2, e3⟩ := o2 (by omega)
    rw [e1, Option.bind_some]
    dsimp only
    rw [if_pos (show (0 : Int) = 0 from rfl), e2.dyn hs, Option.bind_some]
    obtain ⟨h2, y1, y2, y3⟩ := e3.emit (v := spTr c) hne hne2
    rw [y1, Option.bind_some, if_pos (Or.inl rfl)]
    exact ⟨h2, 0, rfl, PRs.bad (e2.tr y2) y3⟩
  · obtain ⟨h1, e1, e2, e3, -⟩ := o1 h6
    rw [e1, Option.bind_some]
    dsimp only
    rw [if_neg (show ¬ (1 : Int) = 0 by decide)]
    obtain ⟨h2, v, x1, x2, x3, x4⟩ := hP h1 k g K e3
    have x1' : rec.2.2.2.2.2.2.1 h1 P = some (v, h2) := x1
    rw [x1', Option.bind_some]
    dsimp only
    cases hr : R k g with
    | inl e =>
      obtain ⟨rfl, hb⟩ := x3 e hr
      rw [if_pos (show (0 : Int) = 0 from rfl), (e2.tr x2).dyn hs, Option.bind_some]
      obtain ⟨h3, y1, y2, y3⟩ := hb.emit (v := spTr c) hne hne2
      rw [y1, Option.bind_some, if_pos (Or.inl rfl)]
      exact ⟨h3, 0, rfl, PRs.bad ((e2.tr x2).tr y2) y3⟩
    | inr y =>
      obtain ⟨k1, g1, K1⟩ := y
      obtain ⟨rfl, hst⟩ := x4 k1 g1 K1 hr
      have hgr := hG _ _ _ _ _ hr
      rw [if_neg (show ¬ (1 : Int) = 0 by decide)]
      obtain ⟨h3, z1, z2, z3⟩ := c_ends (by omega) hst
      rw [z1, Option.bind_some]
      dsimp only
      rw [if_neg (show ¬ (1 : Int) = 0 by decide), z3.dyn, Option.bind_some]
      obtain ⟨h4, y1, y2, y3⟩ := z3.emit (c := c) (by rw [List.length_append]; omega)
      rw [y1, Option.bind_some, if_pos (Or.inr rfl)]
      rw [List.append_assoc] at y3
      exact ⟨h4, 1, rfl, PRs.good (((e2.tr x2).tr z2).tr y2) y3⟩
theorem r_ofPair {rec : jRec} {inner : Option spF} {FP : jH → Option (Int × jH)} (hI : PIn T P tq tp fo md op inner (fun h => rec.2.2.2.2.1 h P) FP) {h : jH} {k : Nat} {g c : Int} {K : List Int} (hs : PSt T h P tq tp fo md k g op K) : ∃ h' v, Pa_ofPair_b T rec h P (spTr c) = some (v, h') ∧ PRs T P tq tp fo md op K (spPair tp inner k g c) h h' v := by
  have hne := hs.ne
  have hne2 := hs.2.1.1.2.2.2.2.1
  have hpk := (spPk_in (tp := tp) (k + 1)).1
  -- all ends badly
  have bad : ∀ (g1 : jH) (e : Int × Nat), PFg P fo h g1 → PBad P g1 e → ∃ h' , Pa_ofPair_p71 T rec g1 P (spTr c) 0 = some (0, h') ∧ PFg P fo h h' ∧ PBad P h' e := by
    intro g1 e f1 b1
    obtain ⟨h3, y1, y2, y3⟩ := b1.emit (v := spTr c) hne hne2
    unfold Pa_ofPair_p71
    rw [f1.dyn hs, Option.bind_some, y1, Option.bind_some, if_pos (Or.inl rfl)]
    exact ⟨h3, rfl, f1.tr y2, y3⟩
  obtain ⟨h0, a1, a2, a3, a4⟩ := hs.peek
  obtain ⟨h1, b1, b2, b3, b4⟩ := a3.expect (c := 40) (by decide)
  have f1 := a2.tr b2
  unfold Pa_ofPair_b Pa_ofPair_p70 spPair
  rw [a1, Option.bind_some]
  dsimp only
  rw [b1, Option.bind_some]
  dsimp only
  by_cases c0 : spTx tp k = 40
  rotate_left
  · rw [if_neg c0, if_pos (show (0 : Int) = 0 from rfl), if_neg c0]
    obtain ⟨h', y1, y2, y3⟩ := bad h1 _ f1 (b4 c0)
    exact ⟨h', 0, y1, PRs.bad y2 y3⟩
  rw [if_pos c0, if_neg (show ¬ (1 : Int) = 0 by decide), if_pos c0, a4]
  have s1 := b3 c0
  obtain ⟨o1, o2⟩ := c_opens (b := k) s1
  rcases hI with ⟨h6, rfl⟩ | ⟨h6, R, rfl, hG, hS, -⟩
  · obtain ⟨h2, e1, e2, e3⟩ := o2 (by omega)
    rw [e1, Option.bind_some]
    dsimp only
    rw [if_pos (show (0 : Int) = 0 from rfl)]
    obtain ⟨h', y1, y2, y3⟩ := bad h2 _ (f1.tr e2) e3
    exact ⟨h', 0, y1, PRs.bad y2 y3⟩
  obtain ⟨h2, e1, e2, e3, -⟩ := o1 h6
  have f2 := f1.tr e2
  rw [e1, Option.bind_some]
  dsimp only
  rw [if_neg (show ¬ (1 : Int) = 0 by decide)]
  obtain ⟨h3, v, x1, x2⟩ := hS h2 _ g K e3
  have x1' : rec.2.2.2.2.1 h2 P = some (v, h3) := x1
  rw [x1', Option.bind_some]
  dsimp only
  rcases x2.close (c := 44) (by decide) (by omega) with ⟨rfl, e, w1, w2⟩ | ⟨rfl, h4, ⟨e, w1, w2, w3, w4⟩ | ⟨k4, g4, K4, w1, w2, w3, w4⟩⟩
  · rw [if_pos (show (0 : Int) = 0 from rfl), w1, spThen_l]
    obtain ⟨h', y1, y2, y3⟩ := bad h3 _ (f2.tr x2.1) w2
    exact ⟨h', 0, y1, PRs.bad y2 y3⟩
  · rw [if_neg (show ¬ (1 : Int) = 0 by decide), w1, Option.bind_some]
    dsimp only
    rw [if_pos (show (0 : Int) = 0 from rfl), w2, spThen_l]
    obtain ⟨h', y1, y2, y3⟩ := bad h4 _ (f2.tr w3) w4
    exact ⟨h', 0, y1, PRs.bad y2 y3⟩
  rw [if_neg (show ¬ (1 : Int) = 0 by decide), w1, Option.bind_some]
  dsimp only
  rw [if_neg (show ¬ (1 : Int) = 0 by decide), w2]
  obtain ⟨h5, v5, x5, x6⟩ := hS h4 k4 g4 _ w4
  have x5' : rec.2.2.2.2.1 h4 P = some (v5, h5) := x5
  rw [x5', Option.bind_some]
  dsimp only
  have f4 := f2.tr w3
  have x7 : PRs T P tq tp fo md (op + 1) K (spThen (.inr (k4, g4, K4)) (spSms tp R)) h h5 v5 := PRs.seq f4 x6
  rcases x7.close (c := 41) (by decide) (by omega) with ⟨rfl, e, u1, u2⟩ | ⟨rfl, h6', ⟨e, u1, u2, u3, u4⟩ | ⟨k6, g6, K6, u1, u2, u3, u4⟩⟩
  · rw [if_pos (show (0 : Int) = 0 from rfl), u1, spEmt_l]
    obtain ⟨h', y1, y2, y3⟩ := bad h5 _ x7.1 u2
    exact ⟨h', 0, y1, PRs.bad y2 y3⟩
  · rw [if_neg (show ¬ (1 : Int) = 0 by decide), u1, Option.bind_some]
    dsimp only
    rw [if_pos (show (0 : Int) = 0 from rfl), u2, spEmt_l]
    obtain ⟨h', y1, y2, y3⟩ := bad h6' _ u3 u4
    exact ⟨h', 0, y1, PRs.bad y2 y3⟩
  rw [if_neg (show ¬ (1 : Int) = 0 by decide), u1, Option.bind_some]
  dsimp only
  rw [if_neg (show ¬ (1 : Int) = 0 by decide), u2, spEmt_r]
  obtain ⟨h7, z1, z2, z3⟩ := c_ends (by omega) u4
  rw [z1, Option.bind_some]
  dsimp only
  rw [if_neg (show ¬ (1 : Int) = 0 by decide)]
  have hlen : K.length + K6.length + 1 ≤ k6 := by
    obtain ⟨q1, q2, q3, q4⟩ := spSign_inr u2
    obtain ⟨q5, q6, q7, q8, q9, q10, q11⟩ := spThen_inr q2
    have hSg := spSms_gr hG
    have e9 : spSign tp 44 (spSms tp R (spPk tp (k + 1)) g) = .inr (k4, g4, K4) := w2
    obtain ⟨p1, p2, p3, p4⟩ := spSign_inr e9
    have g9 := hSg _ _ _ _ _ p2
    obtain ⟨rfl, q12⟩ := Prod.mk.inj (Sum.inr.inj q9)
    obtain ⟨rfl, rfl⟩ := Prod.mk.inj q12
    have g10 := hSg _ _ _ _ _ q10
    have hk4 := (spPk_in (tp := tp) (p1 + 1)).1
    have hk6 := (spPk_in (tp := tp) (q1 + 1)).1
    rw [q11, List.length_append]
    have := hs.2.2
    omega
  obtain ⟨h8, y1, y2, y3⟩ := z3.emit (c := c) (by rw [List.length_append]; exact hlen)
  unfold Pa_ofPair_p71
  rw [z3.dyn, Option.bind_some, y1, Option.bind_some, if_pos (Or.inr rfl)]
  rw [List.append_assoc] at y3
  exact ⟨h8, 1, rfl, PRs.good ((u3.tr z2).tr y2) y3⟩
end PAJ
