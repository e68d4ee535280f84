/-! reading a formula: the class's part, fact; all of it -/
section PAK
variable {T : jT} {P tq : Nat} {tp : List Int} {fo md op : Nat}
def spOf (inner : Option spF) (b k : Nat) (g c : Int) : spR := match inner with
  | none => .inl (4, b)
  | some R => spEmt [c] (R k g)
theorem spTr_nm {x : Int} (h : 0 ≤ x) : spTr (1000 + x) = x := by unfold spTr; rw [if_pos (by omega)]; omega
theorem spTr_fact {w : Int} (h0 : 0 ≤ w) (h1 : w ≤ 8) : spTr (40 + w) = 10000 + w := by
  unfold spTr
  rw [if_neg (by omega), if_neg (by omega), if_neg (by omega), if_pos (by omega)]
  omega
theorem r_named {rec : jRec} {A : Prop} {h : jH} {k b : Nat} {g : Int} {K : List Int} (hs : PSt T h P tq tp fo md k g op K) (hfn : ∃ h' v, Pa_factNamed T h P = some (v, h') ∧ PFg P fo h h' ∧ (A → v = spWq tp g k ∧ PSt T h' P tq tp fo md (spPk tp (spLe tp k)) (spLe tp k : Int) op K) ∧ (¬ A → v = -1 ∧ PSt T h' P tq tp fo md k g op K)) (hA : A → 0 ≤ spWq tp g k ∧ spWq tp g k ≤ 8) : ∃ h' v, Pa_part_p177 T rec h P (b : Int) = some (v, h') ∧ (A → PRs T P tq tp fo md op K (.inr (spPk tp (spLe tp k), (spLe tp k : Int), [40 + spWq tp g k])) h h' v) ∧ (¬ A → PRs T P tq tp fo md op K (.inl (1, b)) h h' v) := by
  have hne := hs.ne
  have hne2 := hs.2.1.1.2.2.2.2.1
  obtain ⟨h1, v, e1, e2, e3, e4⟩ := hfn
  unfold Pa_part_p177 Pa_part_p208
  rw [e1, Option.bind_some]
  dsimp only
  rw [e2.dyn hs, Option.bind_some]
  by_cases a : A
  · obtain ⟨rfl, hst⟩ := e3 a
    have hw := hA a
    have hle := (spWq_word (tp := tp) (g := g) (k := k) (by omega)).2.2.1
    have hpk := (spPk_in (tp := tp) (spLe tp k)).1
    obtain ⟨h2, y1, y2, y3⟩ := hst.emit (c := 40 + spWq tp g k) (by have := hs.2.2; omega)
    rw [spTr_fact hw.1 hw.2] at y1
    rw [pw (x := 10000 + spWq tp g k) (by omega) (by omega), y1, Option.bind_some, if_neg (by omega)]
    exact ⟨h2, 1, rfl, fun _ => PRs.good (e2.tr y2) y3, fun hn => absurd a hn⟩
  · obtain ⟨rfl, hst⟩ := e4 a
    obtain ⟨h2, y1, y2, y3⟩ := c_emitAny (fo := fo) (h := h1) (v := wr (10000 + (-1)))
    rw [y1, Option.bind_some, if_pos (show (-1 : Int) = -1 from rfl)]
    obtain ⟨h3, x1, x2, x3⟩ := c_failAt (P := P) (h := h2) (e := (1, b))
    rw [show Pa_fail h2 P 1 (b : Int) = _ from x1, Option.bind_some]
    dsimp only
    rw [if_pos (show (0 : Int) = 0 from rfl)]
    have eP : h2 P = h1 P := y2 P (Ne.symm hne) (Ne.symm hne2)
    have f2 : PFg P fo h1 h2 := ⟨fun z _ z2 z3 => y2 z z2 z3, fun f _ _ _ _ _ => by rw [eP], y3⟩
    exact ⟨h3, 0, rfl, fun h => absurd h a, fun _ => PRs.bad (e2.tr (f2.tr (x2.g hne))) x3⟩
theorem r_part {rec : jRec} {inner : Option spF} (hmd : md = 0 ∨ md = 1 ∨ md = 2) (hI : PIn T P tq tp fo md op inner (fun h => rec.2.2.2.2.1 h P) (fun h => rec.2.2.2.2.2.2.1 h P))
    (hpair : ∀ (h : jH) (k : Nat) (g c : Int) (K : List Int), PSt T h P tq tp fo md k g op K → ∃ h' v, rec.2.2.2.2.2.2.2.1 h P (spTr c) = some (v, h') ∧ PRs T P tq tp fo md op K (spPair tp inner k g c) h h' v)
    (hof : ∀ (h : jH) (k b : Nat) (g c : Int) (K : List Int), PSt T h P tq tp fo md k g op K → K.length + 1 ≤ k → ∃ h' v, rec.2.2.2.2.2.2.2.2 h P (spTr c) (b : Int) = some (v, h') ∧ PRs T P tq tp fo md op K (spOf inner b k g c) h h' v) :
    PRd T P tq tp fo md op (fun h => Pa_part_b T rec h P) (spPartS tp md inner) := by
  intro h k g K hs
  have hne := hs.ne
  have hne2 := hs.2.1.1.2.2.2.2.1
  have hK := hs.2.2
  show ∃ h' v, Pa_part_b T rec h P = some (v, h') ∧ _
  obtain ⟨h1, a1, a2, a3, a4⟩ := hs.peek
  unfold Pa_part_b spPartS Pa_part_p89
  rw [a1, Option.bind_some]
  dsimp only
  rw [g_dig, Option.bind_some, a4]
  by_cases c0 : spDg (spTx tp k) = true
  · rw [if_pos c0, if_neg (show ¬ (1 : Int) = 0 by decide), if_pos c0]
    obtain ⟨h2, v, b1, b2, b3, b4⟩ := c_number (lo := 0) (hi := 9999) (by decide) a3.1
    rw [b1, Option.bind_some]
    dsimp only
    rw [(a2.tr (b2.g hne)).dyn hs, Option.bind_some]
    cases hn : spNum tp g k 0 9999 with
    | inl e =>
      obtain ⟨rfl, hb⟩ := b3 e hn
      obtain ⟨h3, y1, y2, y3⟩ := hb.emit (v := -1) hne hne2
      rw [y1, Option.bind_some, if_pos (show (-1 : Int) = -1 from rfl)]
      exact ⟨h3, 0, rfl, PRs.bad ((a2.tr (b2.g hne)).tr y2) y3⟩
    | inr y =>
      obtain ⟨x, e⟩ := y
      obtain ⟨rfl, hst⟩ := b4 x e hn
      have hx := spNum_ok hn
      have hpk := (spPk_in (tp := tp) e).1
      have s2 : PSt T h2 P tq tp fo md (spPk tp e) (e : Int) op K := a3.fr b2 hst (by omega)
      obtain ⟨h3, y1, y2, y3⟩ := s2.emit (c := 1000 + v) (by omega)
      rw [spTr_nm hx.2.2.1] at y1
      rw [y1, Option.bind_some, if_neg (by omega)]
      exact ⟨h3, 1, rfl, PRs.good ((a2.tr (b2.g hne)).tr y2) y3⟩
  rw [if_neg c0, if_pos (show (0 : Int) = 0 from rfl), if_neg c0]
  obtain ⟨h2, b1, b2, b3, b4⟩ := a3.sign (c := 40) (by decide)
  have f2 := a2.tr b2
  rw [b1, Option.bind_some]
  dsimp only
  by_cases c1 : spTx tp k = 40
  · rw [if_pos c1, if_neg (show ¬ (1 : Int) = 0 by decide), if_pos c1]
    rw [if_pos c1] at b3
    obtain ⟨o1, o2⟩ := c_opens (b := k) b3
    rcases hI with ⟨h6, rfl⟩ | ⟨h6, R, rfl, hG, hS, -⟩
    · obtain ⟨h3, e1, e2, e3⟩ := o2 (by omega)
      rw [e1, Option.bind_some]
      dsimp only
      rw [if_pos (show (0 : Int) = 0 from rfl)]
      exact ⟨h3, 0, rfl, PRs.bad (f2.tr e2) e3⟩
    obtain ⟨h3, e1, e2, e3, -⟩ := o1 h6
    rw [e1, Option.bind_some]
    dsimp only
    rw [if_neg (show ¬ (1 : Int) = 0 by decide)]
    obtain ⟨h4, v, x1, x2⟩ := hS h3 _ g K e3
    have x1' : rec.2.2.2.2.1 h3 P = some (v, h4) := x1
    rw [x1', Option.bind_some]
    dsimp only
    have x3 := x2.fr (f2.tr e2)
    rcases x3.close (c := 41) (by decide) (by omega) with ⟨rfl, e, w1, w2⟩ | ⟨rfl, h5, ⟨e, w1, w2, w3, w4⟩ | ⟨k4, g4, K4, w1, w2, w3, w4⟩⟩
    · rw [if_pos (show (0 : Int) = 0 from rfl), w1]
      exact ⟨h4, 0, rfl, PRs.bad x3.1 w2⟩
    · rw [if_neg (show ¬ (1 : Int) = 0 by decide), w1, Option.bind_some]
      dsimp only
      rw [if_pos (show (0 : Int) = 0 from rfl), w2]
      exact ⟨h5, 0, rfl, PRs.bad w3 w4⟩
    rw [if_neg (show ¬ (1 : Int) = 0 by decide), w1, Option.bind_some]
    dsimp only
    rw [if_neg (show ¬ (1 : Int) = 0 by decide), w2]
    obtain ⟨h6', z1, z2, z3⟩ := c_ends (by omega) w4
    rw [z1, Option.bind_some]
    dsimp only
    rw [if_neg (show ¬ (1 : Int) = 0 by decide)]
    exact ⟨h6', 1, rfl, PRs.good (w3.tr z2) z3⟩
  rw [if_neg c1, if_pos (show (0 : Int) = 0 from rfl), if_neg c1]
  rw [if_neg c1] at b3
  obtain ⟨h3, d1, d2, d3, d4⟩ := b3.word (w := spWmin) (by decide)
  rw [show Pa_word T h2 P [109, 105, 110] = _ from d1, Option.bind_some]
  dsimp only
  by_cases c2 : spWd tp g k spWmin = true
  · rw [if_pos c2, if_neg (show ¬ (1 : Int) = 0 by decide), if_pos c2]
    obtain ⟨h4, v, x1, x2⟩ := hpair h3 _ _ 5 K (d3 c2)
    have x1' : rec.2.2.2.2.2.2.2.1 h3 P 30009 = some (v, h4) := x1
    have hv : v = 0 ∨ v = 1 := by
      cases hr : spPair tp inner (spPk tp (k + spWmin.length)) ((k + spWmin.length : Nat) : Int) 5 with
      | inl e => exact Or.inl (x2.2.1 e hr).1
      | inr y => exact Or.inr (x2.2.2 _ _ _ hr).1
    rw [x1', Option.bind_some]
    dsimp only
    rw [if_pos hv]
    exact ⟨h4, v, rfl, x2.fr (f2.tr d2)⟩
  rw [if_neg c2, if_pos (show (0 : Int) = 0 from rfl), if_neg c2]
  have s3 := (d4 (Bool.eq_false_iff.mpr c2)).1
  obtain ⟨h4, e1, e2, e3, e4⟩ := s3.word (w := spWmax) (by decide)
  rw [show Pa_word T h3 P [109, 97, 120] = _ from e1, Option.bind_some]
  dsimp only
  by_cases c3 : spWd tp g k spWmax = true
  · rw [if_pos c3, if_neg (show ¬ (1 : Int) = 0 by decide), if_pos c3]
    obtain ⟨h5, v, x1, x2⟩ := hpair h4 _ _ 6 K (e3 c3)
    have x1' : rec.2.2.2.2.2.2.2.1 h4 P 30010 = some (v, h5) := x1
    have hv : v = 0 ∨ v = 1 := by
      cases hr : spPair tp inner (spPk tp (k + spWmax.length)) ((k + spWmax.length : Nat) : Int) 6 with
      | inl e => exact Or.inl (x2.2.1 e hr).1
      | inr y => exact Or.inr (x2.2.2 _ _ _ hr).1
    rw [x1', Option.bind_some]
    dsimp only
    rw [if_pos hv]
    exact ⟨h5, v, rfl, x2.fr ((f2.tr d2).tr e2)⟩
  rw [if_neg c3, if_pos (show (0 : Int) = 0 from rfl), if_neg c3]
  have s4 := (e4 (Bool.eq_false_iff.mpr c3)).1
  have f4 := (f2.tr d2).tr e2
  have h10 : h4 P 10 = (md : Int) := s4.2.1.1.2.2.1
  have wpos : spWq tp g k ≠ -1 → 0 ≤ spWq tp g k ∧ spWq tp g k ≤ 10 := fun e => ⟨(spWq_word e).1, (spWq_word e).2.1⟩
  rcases hmd with rfl | rfl | rfl
  · rw [if_neg (show ¬ h4 P 10 = 2 by rw [h10]; decide)]
    unfold Pa_part_p151
    rw [if_neg (show ¬ h4 P 10 = 2 by rw [h10]; decide)]
    obtain ⟨h5, v, y1, y2, y3⟩ := r_named (rec := rec) (b := k) s4 (c_fn0 s4) (fun h => by omega)
    rw [y1]
    by_cases w : spWq tp g k = -1 ∨ spAld 0 (spWq tp g k) = false
    · rw [if_pos w]
      refine ⟨h5, v, rfl, (y3 (fun hA => ?_)).fr f4⟩
      rcases w with w | w
      · omega
      · have : spAld 0 (spWq tp g k) = true := decide_eq_true (by omega)
        rw [this] at w; exact absurd w (by decide)
    · rw [if_neg w]
      have w1 : spWq tp g k ≠ -1 := fun e => w (Or.inl e)
      have w2 : spWq tp g k < 5 := by
        cases hh : spAld 0 (spWq tp g k)
        · exact absurd (Or.inr hh) w
        · exact of_decide_eq_true hh
      have w3 := wpos w1
      rw [if_pos (by omega)]
      exact ⟨h5, v, rfl, (y2 (by omega)).fr f4⟩
  · rw [if_neg (show ¬ h4 P 10 = 2 by rw [h10]; decide)]
    unfold Pa_part_p151
    rw [if_neg (show ¬ h4 P 10 = 2 by rw [h10]; decide)]
    obtain ⟨h5, v, y1, y2, y3⟩ := r_named (rec := rec) (b := k) s4 (c_fn1 s4) (fun h => by omega)
    rw [y1]
    by_cases w : spWq tp g k = -1 ∨ spAld 1 (spWq tp g k) = false
    · rw [if_pos w]
      refine ⟨h5, v, rfl, (y3 (fun hA => ?_)).fr f4⟩
      rcases w with w | w
      · omega
      · have : spAld 1 (spWq tp g k) = true := decide_eq_true (by omega)
        rw [this] at w; exact absurd w (by decide)
    · rw [if_neg w]
      have w1 : spWq tp g k ≠ -1 := fun e => w (Or.inl e)
      have w2 : spWq tp g k < 3 := by
        cases hh : spAld 1 (spWq tp g k)
        · exact absurd (Or.inr hh) w
        · exact of_decide_eq_true hh
      have w3 := wpos w1
      rw [if_pos (by omega)]
      exact ⟨h5, v, rfl, (y2 (by omega)).fr f4⟩
  · rw [if_pos (show h4 P 10 = 2 by rw [h10]; rfl)]
    obtain ⟨h5, p1, p2, p3, p4⟩ := s4.word (w := spW9) (by decide)
    rw [show Pa_word T h4 P [111, 99, 116, 101, 116] = _ from p1, Option.bind_some]
    dsimp only
    by_cases c9 : spWd tp g k spW9 = true
    · have hw := spWq_at9 c9
      rw [if_pos c9, if_neg (show ¬ (1 : Int) = 0 by decide), hw, if_neg (by decide), if_neg (by decide)]
      have hpk := (spPk_in (tp := tp) (k + 5)).1
      have s5 : PSt T h5 P tq tp fo 2 (spPk tp (k + 5)) ((k + 5 : Nat) : Int) op K := p3 c9
      obtain ⟨h6, v, x1, x2⟩ := hof h5 _ k _ 60 K s5 (by omega)
      have x1' : rec.2.2.2.2.2.2.2.2 h5 P 20001 (k : Int) = some (v, h6) := x1
      have hv : v = 0 ∨ v = 1 := by
        cases hr : spOf inner k (spPk tp (k + 5)) ((k + 5 : Nat) : Int) 60 with
        | inl e => exact Or.inl (x2.2.1 e hr).1
        | inr y => exact Or.inr (x2.2.2 _ _ _ hr).1
      rw [x1', Option.bind_some]
      dsimp only
      rw [if_pos hv]
      refine ⟨h6, v, rfl, ?_⟩
      have x3 := x2.fr (f4.tr p2)
      cases inner with
      | none => exact x3
      | some R => exact x3
    rw [if_neg c9, if_pos (show (0 : Int) = 0 from rfl)]
    have s5 := (p4 (Bool.eq_false_iff.mpr c9)).1
    have g10 : h5 P 10 = 2 := s5.2.1.1.2.2.1
    unfold Pa_part_p151
    rw [if_pos g10]
    obtain ⟨h6, q1, q2, q3, q4⟩ := s5.word (w := spW10) (by decide)
    rw [show Pa_word T h5 P [118, 97, 108, 117, 101] = _ from q1, Option.bind_some]
    dsimp only
    by_cases c10 : spWd tp g k spW10 = true
    · have hw := spWq_at10 c10
      rw [if_pos c10, if_neg (show ¬ (1 : Int) = 0 by decide), hw, if_neg (by decide), if_neg (by decide)]
      have hpk := (spPk_in (tp := tp) (k + 5)).1
      have s6 : PSt T h6 P tq tp fo 2 (spPk tp (k + 5)) ((k + 5 : Nat) : Int) op K := q3 c10
      obtain ⟨h7, v, x1, x2⟩ := hof h6 _ k _ 61 K s6 (by omega)
      have x1' : rec.2.2.2.2.2.2.2.2 h6 P 20002 (k : Int) = some (v, h7) := x1
      have hv : v = 0 ∨ v = 1 := by
        cases hr : spOf inner k (spPk tp (k + 5)) ((k + 5 : Nat) : Int) 61 with
        | inl e => exact Or.inl (x2.2.1 e hr).1
        | inr y => exact Or.inr (x2.2.2 _ _ _ hr).1
      rw [x1', Option.bind_some]
      dsimp only
      rw [if_pos hv]
      refine ⟨h7, v, rfl, ?_⟩
      have x3 := x2.fr ((f4.tr p2).tr q2)
      cases inner with
      | none => exact x3
      | some R => exact x3
    rw [if_neg c10, if_pos (show (0 : Int) = 0 from rfl)]
    have s6 := (q4 (Bool.eq_false_iff.mpr c10)).1
    have n9 : spWq tp g k ≠ 9 := fun e => c9 (spWq_inv9 e)
    have n10 : spWq tp g k ≠ 10 := fun e => c10 (spWq_inv10 e)
    obtain ⟨h7, v, y1, y2, y3⟩ := r_named (rec := rec) (b := k) s6 (c_fn2 s6) (fun h => by omega)
    rw [y1]
    by_cases w : spWq tp g k = -1 ∨ spAld 2 (spWq tp g k) = false
    · rw [if_pos w]
      refine ⟨h7, v, rfl, (y3 (fun hA => ?_)).fr ((f4.tr p2).tr q2)⟩
      rcases w with w | w
      · omega
      · have : spAld 2 (spWq tp g k) = true := by
          show (decide (spWq tp g k = 0) || decide (4 < spWq tp g k)) = true
          rcases hA with e | e | e | e | e <;> rw [e] <;> decide
        rw [this] at w; exact absurd w (by decide)
    · rw [if_neg w]
      have w1 : spWq tp g k ≠ -1 := fun e => w (Or.inl e)
      have w3 := wpos w1
      have w2 : spWq tp g k = 0 ∨ 4 < spWq tp g k := by
        cases hh : spAld 2 (spWq tp g k)
        · exact absurd (Or.inr hh) w
        · have hh' : (decide (spWq tp g k = 0) || decide (4 < spWq tp g k)) = true := hh
          rw [Bool.or_eq_true] at hh'
          rcases hh' with e | e
          · exact Or.inl (of_decide_eq_true e)
          · exact Or.inr (of_decide_eq_true e)
      rw [if_pos (by omega)]
      exact ⟨h7, v, rfl, (y2 (by omega)).fr ((f4.tr p2).tr q2)⟩
end PAK
