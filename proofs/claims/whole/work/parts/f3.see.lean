/-! see, on both sides -/
section SEE
variable {T : jT} {o0 pl ns blk len B : Nat} {p : spPl} {X : spX} {b : Int}
theorem c_rowsB {h : jH} {i : Nat} {tp : List Int} (hb : spByt tp) (hL : CTb h o0 tp) (h3 : tp.length % 3 = 0) (hi : i < tp.length / 3) : (spRow tp i → G_rowsStand_B21 h o0 (tp.length : Int) ((3 * i : Nat) : Int) = some (.inl ((3 * (i + 1) : Nat) : Int))) ∧ (¬ spRow tp i → G_rowsStand_B21 h o0 (tp.length : Int) ((3 * i : Nat) : Int) = some (.inr 0)) := by
  have hl := hL.1
  unfold G_rowsStand_B21 spRow
  rw [if_pos (by omega), g_cellN (by omega), hL.at (by omega)]
  simp only [Option.bind_some]
  rw [pw (x := ((3 * i : Nat) : Int) + 1) (by omega) (by omega), show ((3 * i : Nat) : Int) + 1 = ((3 * i + 1 : Nat) : Int) by omega, c_tpair hb hL (by omega)]
  simp only [Option.bind_some]
  rw [pw (x := ((3 * i : Nat) : Int) + 3) (by omega) (by omega), show ((3 * i : Nat) : Int) + 3 = ((3 * (i + 1) : Nat) : Int) by omega]
  refine ⟨fun hr => by rw [if_pos hr.1, if_neg (by omega)], fun hr => ?_⟩
  by_cases a : tp.getD (3 * i) 0 < 16
  · rw [if_pos a, if_pos (by omega)]; rfl
  · rw [if_neg a]; rfl
theorem c_rowsY {h : jH} {tp : List Int} (hb : spByt tp) (hL : CTb h o0 tp) (hs : spSees tp) : G_rowsStand h o0 (tp.length : Int) = some 1 := by
  obtain ⟨s1, s2, s3, s4⟩ := hs
  unfold G_rowsStand
  rw [if_neg (by omega), if_neg (by omega), Int.tmod_eq_emod_of_nonneg (by omega), if_pos (by omega)]
  unfold G_rowsStand_L21
  obtain ⟨v, w1, w2⟩ := jloop_k (f := fun s : Int => G_rowsStand_B21 h o0 (tp.length : Int) s) (fun i s => s = ((3 * i : Nat) : Int)) (tp.length / 3) (fun i s hi hp => ⟨((3 * (i + 1) : Nat) : Int), by rw [hp]; exact (c_rowsB hb hL s3 hi).1 (s4 i hi), rfl⟩) (k := 0) (s := (0 : Int)) (by omega) rfl
  rw [w2, w1]
  refine jloop_r ?_
  unfold G_rowsStand_B21
  rw [if_neg (by omega)]
  rfl
theorem c_rowsN {h : jH} {tp : List Int} (hb : spByt tp) (hL : CTb h o0 tp) (hs : ¬ spSees tp) : G_rowsStand h o0 (tp.length : Int) = some 0 := by
  unfold G_rowsStand
  by_cases a1 : (tp.length : Int) < 3
  · rw [if_pos a1]
  rw [if_neg a1]
  by_cases a2 : 48 < (tp.length : Int)
  · rw [if_pos a2]
  rw [if_neg a2, Int.tmod_eq_emod_of_nonneg (by omega)]
  by_cases a3 : (tp.length : Int) % 3 = 0
  rotate_left
  · rw [if_neg a3]
  rw [if_pos a3]
  have hex : ¬ ∀ i, i < tp.length / 3 → spRow tp i := fun h => hs ⟨by omega, by omega, by omega, h⟩
  have key : ∀ m i, i + m = tp.length / 3 → (¬ ∀ j, i ≤ j → j < tp.length / 3 → spRow tp j) → G_rowsStand_L21 h o0 (tp.length : Int) ((3 * i : Nat) : Int) = some 0 := by
    unfold G_rowsStand_L21
    intro m
    induction m with
    | zero => intro i hi hn; exact absurd (fun j h1 h2 => by omega) hn
    | succ m ih =>
      intro i hi hn
      by_cases c : spRow tp i
      · refine (jloop_l (s' := ((3 * (i + 1) : Nat) : Int)) ((c_rowsB hb hL (by omega) (by omega)).1 c)).trans (ih (i + 1) (by omega) (fun hall => hn (fun j h1 h2 => ?_)))
        rcases Nat.eq_or_lt_of_le h1 with e | e
        · rw [← e]; exact c
        · exact hall j e h2
      · exact jloop_r ((c_rowsB hb hL (by omega) (by omega)).2 c)
  exact key (tp.length / 3) 0 (by omega) (fun hall => hex (fun j h => hall j (Nat.zero_le _) h))
/-- what see may change -/
def SEf (o0 k f1 f2 : Nat) (h h' : jH) : Prop := (∀ z, z ≠ o0 → z ≠ k → h' z = h z) ∧ ∀ f, f ≠ f1 → f ≠ f2 → h' o0 f = h o0 f
theorem RC.see_yes {h : jH} {tp : List Int} (hd : spDim ns blk len) (hb : spByt tp) (hL : CTa h o0 tp) (hs : spSees tp) (r : RC T h o0 pl ns blk len p B X) : ∃ h', G_see T h o0 = some (((tp.length / 3 : Nat) : Int), h') ∧ SEf o0 (o0 + 4) 1 7 h h' ∧ RC T h' o0 pl ns blk len p B X ∧ CTa h' o0 [] ∧ CSn h' o0 (spRows tp (tp.length / 3)) := by
  unfold G_see G_takeTape
  simp only [Option.bind_some]
  obtain ⟨h1, hh1⟩ : ∃ h1 : jH, h1 = jup h o0 1 0 := ⟨_, rfl⟩
  rw [← hh1]
  have f1 : TAf o0 h h1 := ⟨fun z z1 _ => by rw [hh1, jup_ne z1], fun f hf => by rw [hh1, ju_ne hf]⟩
  have r1 : RC T h1 o0 pl ns blk len p B X := r.off (fun z hz => f1.1 z (by omega) (by omega)) (fun f hf => f1.2 f (by omega))
  have hLb : CTb h1 o0 tp := hL.b.eq (by rw [hh1, jup_ne (by omega)])
  rw [r1.told hd, hL.1]
  simp only [Option.bind_some]
  rw [if_neg (by decide), c_rowsY hb hLb hs]
  simp only [Option.bind_some]
  rw [if_neg (by decide)]
  obtain ⟨s1, s2, s3, s4⟩ := hs
  unfold G_see_L28
  obtain ⟨⟨v, h2⟩, ⟨w1, w2, w3⟩, w4⟩ := jloop_k (f := fun s : (Int × jH) => G_see_B28 T s.2 o0 (tp.length : Int) s.1) (fun i s => s.1 = (i : Int) ∧ (∀ z, z ≠ o0 + 4 → s.2 z = h1 z) ∧ ∀ j, j < i → s.2 (o0 + 4) j = tp.getD j 0) tp.length (fun i s hi hp => by
    obtain ⟨x, g⟩ := s
    obtain ⟨p1, p2, p3⟩ := hp
    dsimp only at p1 p2 p3
    subst p1
    refine ⟨(((i + 1 : Nat) : Int), jup g (o0 + 4) i (tp.getD i 0)), ?_, rfl, fun z hz => by rw [← p2 z hz]; exact jup_ne hz, fun j hj => ?_⟩
    · show G_see_B28 T g o0 (tp.length : Int) (i : Int) = _
      unfold G_see_B28
      rw [if_pos (by omega), if_pos (by omega), g_cellN (by omega), p2 _ (by omega), hLb.at hi]
      simp only [Option.bind_some]
      rw [if_pos (by omega), Int.toNat_natCast, pw (by omega) (by omega)]
      rfl
    · show jup g (o0 + 4) i (tp.getD i 0) (o0 + 4) j = _
      rw [ju_if]
      by_cases e : j = i
      · rw [if_pos e, e]
      · rw [if_neg e]; exact p3 j (by omega)) (k := 0) (s := ((0 : Int), h1)) (by omega) ⟨rfl, fun _ _ => rfl, fun j hj => absurd hj (by omega)⟩
  dsimp only at w1 w2 w3
  rw [w4]
  subst w1
  have hdiv : wr (Int.tdiv (tp.length : Int) 3) = ((tp.length / 3 : Nat) : Int) := by rw [Int.tdiv_eq_ediv_of_nonneg (by omega), pw (by omega) (by omega)]; omega
  obtain ⟨h3, hh3⟩ : ∃ h3 : jH, h3 = jup h2 o0 7 ((tp.length / 3 : Nat) : Int) := ⟨_, rfl⟩
  have ez : ∀ z, z ≠ o0 → z ≠ o0 + 4 → h3 z = h z := fun z z1 z2 => by rw [hh3, jup_ne z1, w2 z z2, hh1, jup_ne z1]
  have ef : ∀ f, f ≠ 1 → f ≠ 7 → h3 o0 f = h o0 f := fun f f1 f2 => by rw [hh3, ju_ne f2, w2 o0 (by omega), hh1, ju_ne f1]
  have e4 : ∀ j, j < tp.length → h3 (o0 + 4) j = tp.getD j 0 := fun j hj => by rw [hh3, jup_ne (by omega)]; exact w3 j hj
  refine ⟨h3, jloop_r ?_, ⟨ez, ef⟩, r.off (fun z hz => ez z (by omega) (by omega)) (fun f hf => ef f (by omega) (by omega)), CTa.nil (by rw [hh3, ju_ne (by decide), w2 o0 (by omega), hh1, ju_eq]), by rw [hh3, ju_eq, spRows_len], by rw [spRows_len]; exact s2, fun i e he => ?_⟩
  · show G_see_B28 T h2 o0 (tp.length : Int) ((tp.length : Nat) : Int) = _
    unfold G_see_B28 G_see_p62
    rw [if_neg (by omega), hdiv, ju_eq, ← hh3]
    rfl
  · obtain ⟨i1, i2⟩ := spRows_get _ _ _ he
    have a1 := hb.at (3 * i + 1)
    have a2 := hb.at (3 * i + 1 + 1)
    rw [i2]
    refine ⟨e4 _ (by omega), tp.getD (3 * i + 1) 0, tp.getD (3 * i + 1 + 1) 0, e4 _ (by omega), e4 _ (by omega), a1.1, a1.2, a2.1, a2.2, rfl⟩
theorem RC.see_no {h : jH} {tp : List Int} (hd : spDim ns blk len) (hb : spByt tp) (hL : CTa h o0 tp) (hs : ¬ spSees tp) (r : RC T h o0 pl ns blk len p B X) : ∃ h', G_see T h o0 = some (-1, h') ∧ RCf o0 pl (jup h o0 1 0) h' ∧ RC T h' o0 pl ns blk len p B (spRfu 1 X) ∧ CTa h' o0 [] := by
  unfold G_see G_takeTape
  simp only [Option.bind_some]
  obtain ⟨h1, hh1⟩ : ∃ h1 : jH, h1 = jup h o0 1 0 := ⟨_, rfl⟩
  rw [← hh1]
  have f1 : TAf o0 h h1 := ⟨fun z z1 _ => by rw [hh1, jup_ne z1], fun f hf => by rw [hh1, ju_ne hf]⟩
  have r1 : RC T h1 o0 pl ns blk len p B X := r.off (fun z hz => f1.1 z (by omega) (by omega)) (fun f hf => f1.2 f (by omega))
  have hLb : CTb h1 o0 tp := hL.b.eq (by rw [hh1, jup_ne (by omega)])
  rw [r1.told hd, hL.1]
  simp only [Option.bind_some]
  rw [if_neg (by decide), c_rowsN hb hLb hs]
  simp only [Option.bind_some]
  rw [if_pos True.intro]
  unfold G_see_p20
  obtain ⟨g, e1, e2, e3⟩ := r1.refuse (k := 1) (by decide)
  rw [show G_refuse h1 o0 1 = _ from e1]
  exact ⟨g, rfl, e2, e3, CTa.nil (by rw [e2.2 1 (by decide) (by decide), hh1, ju_eq])⟩
theorem m_rowsB {h : jH} {o i : Nat} {tp : List Int} (hb : spByt tp) (hL : CTb h o tp) (h3 : tp.length % 3 = 0) (hi : i < tp.length / 3) : (spRow tp i → M_see_B43 h o (tp.length : Int) 1 ((3 * i : Nat) : Int) = some (.inl (1, ((3 * (i + 1) : Nat) : Int)))) ∧ (¬ spRow tp i → M_see_B43 h o (tp.length : Int) 1 ((3 * i : Nat) : Int) = some (.inl (0, ((3 * (i + 1) : Nat) : Int)))) := by
  have hl := hL.1
  have a1 := hb.at (3 * i + 1)
  have a2 := hb.at (3 * i + 1 + 1)
  unfold M_see_B43 M_see_p94 spRow
  rw [if_pos (by omega), if_neg (by decide), if_pos (by omega), Int.toNat_natCast, hL.at (by omega), pw (x := ((3 * i : Nat) : Int) + 1) (by omega) (by omega), pw (x := ((3 * i : Nat) : Int) + 2) (by omega) (by omega), pw (x := ((3 * i : Nat) : Int) + 3) (by omega) (by omega), show (((3 * i : Nat) : Int) + 1).toNat = 3 * i + 1 by omega, show (((3 * i : Nat) : Int) + 2).toNat = 3 * i + 1 + 1 by omega, hL.at (by omega), hL.at (k := 3 * i + 1 + 1) (by omega), pw (x := 256 * tp.getD (3 * i + 1) 0) (by omega) (by omega), pw (x := 256 * tp.getD (3 * i + 1) 0 + tp.getD (3 * i + 1 + 1) 0) (by omega) (by omega), show ((3 * i : Nat) : Int) + 3 = ((3 * (i + 1) : Nat) : Int) by omega]
  have hp : spPr tp (3 * i + 1) = 256 * tp.getD (3 * i + 1) 0 + tp.getD (3 * i + 1 + 1) 0 := rfl
  rw [hp]
  refine ⟨fun hr => by rw [if_pos hr.1, if_pos (by omega), if_pos (by omega), if_neg (by omega)], fun hr => ?_⟩
  by_cases a : tp.getD (3 * i) 0 < 16
  · rw [if_pos a, if_pos (by omega), if_pos (by omega), if_pos (by omega)]
  · rw [if_neg a]
theorem m_seeStop {h : jH} {o : Nat} {n v3 : Int} : M_see_L43 h o n 0 v3 = M_see_p102 h o n 0 := by
  unfold M_see_L43
  refine jloop_x ?_
  show M_see_B43 h o n 0 v3 = _
  unfold M_see_B43
  by_cases a : v3 < n
  · rw [if_pos a, if_pos rfl]
  · rw [if_neg a]
theorem RM.see_yes {h : jH} {o : Nat} {tp : List Int} (hd : spDim ns blk len) (hb : spByt tp) (hL : CTa h o tp) (hs : spSees tp) (r : RM h o ns blk len p X) : ∃ h', M_see h o = some (((tp.length / 3 : Nat) : Int), h') ∧ SEf o (o + 38) 1 66 h h' ∧ RM h' o ns blk len p X ∧ CTa h' o [] ∧ MSn h' o (spRows tp (tp.length / 3)) := by
  unfold M_see
  obtain ⟨h1, hh1⟩ : ∃ h1 : jH, h1 = jup h o 1 0 := ⟨_, rfl⟩
  rw [← hh1]
  have f1 : TAf o h h1 := ⟨fun z z1 _ => by rw [hh1, jup_ne z1], fun f hf => by rw [hh1, ju_ne hf]⟩
  have r1 : RM h1 o ns blk len p X := r.off (fun z hz => f1.1 z (by omega) (by omega)) (fun f hf => f1.2 f (by omega))
  have hLb : CTb h1 o tp := hL.b.eq (by rw [hh1, jup_ne (by omega)])
  obtain ⟨s1, s2, s3, s4⟩ := hs
  have hdiv : wr (Int.tdiv (tp.length : Int) 3) = ((tp.length / 3 : Nat) : Int) := by rw [Int.tdiv_eq_ediv_of_nonneg (by omega), pw (by omega) (by omega)]; omega
  rw [if_neg r1.told, hL.1, if_pos (by omega), Int.tmod_eq_emod_of_nonneg (by omega), if_pos (by omega), hdiv, if_neg (by omega)]
  unfold M_see_p40 M_see_L43
  obtain ⟨⟨u, v⟩, ⟨w1, w2⟩, w3⟩ := jloop_k (f := fun s : (Int × Int) => M_see_B43 h1 o (tp.length : Int) s.1 s.2) (fun i s => s.2 = ((3 * i : Nat) : Int) ∧ s.1 = 1) (tp.length / 3) (fun i s hi hp => by
    obtain ⟨x, y⟩ := s
    obtain ⟨p1, p2⟩ := hp
    dsimp only at p1 p2
    subst p1
    subst p2
    exact ⟨_, (m_rowsB hb hLb s3 hi).1 (s4 i hi), rfl, rfl⟩) (k := 0) (s := ((1 : Int), (0 : Int))) (by omega) ⟨rfl, rfl⟩
  dsimp only at w1 w2
  subst w1
  subst w2
  rw [w3]
  have hp : jloop (fun s : (Int × Int) => M_see_B43 h1 o (tp.length : Int) s.1 s.2) ((1 : Int), ((3 * (tp.length / 3) : Nat) : Int)) = M_see_L114 h1 o (tp.length : Int) 0 := by
    refine jloop_x ?_
    show M_see_B43 h1 o (tp.length : Int) 1 ((3 * (tp.length / 3) : Nat) : Int) = _
    unfold M_see_B43 M_see_p102
    rw [if_neg (by omega), if_neg (by decide)]
  rw [hp]
  unfold M_see_L114
  obtain ⟨⟨v, h2⟩, ⟨x1, x2, x3⟩, x4⟩ := jloop_k (f := fun s : (Int × jH) => M_see_B114 s.2 o (tp.length : Int) s.1) (fun i s => s.1 = (i : Int) ∧ (∀ z, z ≠ o + 38 → s.2 z = h1 z) ∧ ∀ j, j < i → s.2 (o + 38) (2 * j) = tp.getD (3 * j) 0 ∧ s.2 (o + 38) (2 * j + 1) = spPr tp (3 * j + 1)) (tp.length / 3) (fun i s hi hp => by
    obtain ⟨x, g⟩ := s
    obtain ⟨p1, p2, p3⟩ := hp
    dsimp only at p1 p2 p3
    subst p1
    have a1 := hb.at (3 * i + 1)
    have a2 := hb.at (3 * i + 1 + 1)
    have e1 : ∀ j, j < tp.length → g (o + 1) j = tp.getD j 0 := fun j hj => by rw [p2 _ (by omega)]; exact hLb.at hj
    refine ⟨(((i + 1 : Nat) : Int), jup (jup g (o + 38) (2 * i) (tp.getD (3 * i) 0)) (o + 38) (2 * i + 1) (spPr tp (3 * i + 1))), ?_, rfl, fun z hz => by rw [← p2 z hz]; show jup (jup g _ _ _) _ _ _ z = _; rw [jup_ne hz, jup_ne hz], fun j hj => ?_⟩
    · show M_see_B114 g o (tp.length : Int) (i : Int) = _
      unfold M_see_B114
      rw [hdiv, if_pos (by omega), pw (x := 3 * (i : Int)) (by omega) (by omega), pw (x := 2 * (i : Int)) (by omega) (by omega), pw (x := 3 * (i : Int) + 1) (by omega) (by omega), pw (x := 3 * (i : Int) + 2) (by omega) (by omega), pw (x := 2 * (i : Int) + 1) (by omega) (by omega)]
      rw [show (3 * (i : Int)).toNat = 3 * i by omega, show (2 * (i : Int)).toNat = 2 * i by omega, show (3 * (i : Int) + 1).toNat = 3 * i + 1 by omega, show (3 * (i : Int) + 2).toNat = 3 * i + 1 + 1 by omega, show (2 * (i : Int) + 1).toNat = 2 * i + 1 by omega]
      rw [if_pos (by omega), if_pos (by omega), if_pos (by omega), if_pos (by omega), if_pos (by omega), jup_ne (by omega), e1 _ (by omega), e1 _ (by omega), e1 _ (by omega), pw (x := 256 * tp.getD (3 * i + 1) 0) (by omega) (by omega), pw (x := 256 * tp.getD (3 * i + 1) 0 + tp.getD (3 * i + 1 + 1) 0) (by omega) (by omega), pw (x := (i : Int) + 1) (by omega) (by omega)]
      rfl
    · show jup (jup g _ _ _) _ _ _ _ _ = _ ∧ jup (jup g _ _ _) _ _ _ _ _ = _
      by_cases e : j = i
      · rw [e, ju_ne (by omega), ju_eq, ju_eq]; exact ⟨rfl, rfl⟩
      · rw [ju_ne (by omega), ju_ne (by omega), ju_ne (by omega), ju_ne (by omega)]; exact p3 j (by omega)) (k := 0) (s := ((0 : Int), h1)) (by omega) ⟨rfl, fun _ _ => rfl, fun j hj => absurd hj (by omega)⟩
  dsimp only at x1 x2 x3
  rw [x4]
  subst x1
  obtain ⟨h3, hh3⟩ : ∃ h3 : jH, h3 = jup h2 o 66 ((tp.length / 3 : Nat) : Int) := ⟨_, rfl⟩
  have ez : ∀ z, z ≠ o → z ≠ o + 38 → h3 z = h z := fun z z1 z2 => by rw [hh3, jup_ne z1, x2 z z2, hh1, jup_ne z1]
  have ef : ∀ f, f ≠ 1 → f ≠ 66 → h3 o f = h o f := fun f f1 f2 => by rw [hh3, ju_ne f2, x2 o (by omega), hh1, ju_ne f1]
  refine ⟨h3, jloop_r ?_, ⟨ez, ef⟩, r.off (fun z hz => ez z (by omega) (by omega)) (fun f hf => ef f (by omega) (by omega)), CTa.nil (by rw [hh3, ju_ne (by decide), x2 o (by omega), hh1, ju_eq]), by rw [hh3, ju_eq, spRows_len], by rw [spRows_len]; exact s2, fun i e he => ?_⟩
  · show M_see_B114 h2 o (tp.length : Int) ((tp.length / 3 : Nat) : Int) = _
    unfold M_see_B114
    rw [hdiv, if_neg (by omega), ju_eq, ← hh3]
    rfl
  · obtain ⟨i1, i2⟩ := spRows_get _ _ _ he
    rw [i2, hh3, jup_ne (by omega)]
    exact x3 i i1
theorem RM.see_no {h : jH} {o : Nat} {tp : List Int} (hb : spByt tp) (hL : CTa h o tp) (hs : ¬ spSees tp) (r : RM h o ns blk len p X) : ∃ h', M_see h o = some (-1, h') ∧ RMf o (jup h o 1 0) h' ∧ RM h' o ns blk len p (spRfu 1 X) ∧ CTa h' o [] := by
  unfold M_see
  obtain ⟨h1, hh1⟩ : ∃ h1 : jH, h1 = jup h o 1 0 := ⟨_, rfl⟩
  rw [← hh1]
  have f1 : TAf o h h1 := ⟨fun z z1 _ => by rw [hh1, jup_ne z1], fun f hf => by rw [hh1, ju_ne hf]⟩
  have r1 : RM h1 o ns blk len p X := r.off (fun z hz => f1.1 z (by omega) (by omega)) (fun f hf => f1.2 f (by omega))
  have hLb : CTb h1 o tp := hL.b.eq (by rw [hh1, jup_ne (by omega)])
  have hl := hL.2.1
  have hdiv : wr (Int.tdiv (tp.length : Int) 3) = ((tp.length / 3 : Nat) : Int) := by rw [Int.tdiv_eq_ediv_of_nonneg (by omega), pw (by omega) (by omega)]; omega
  have stop : ∃ h', M_see_p102 h1 o (tp.length : Int) 0 = some (-1, h') ∧ RMf o h1 h' ∧ RM h' o ns blk len p (spRfu 1 X) ∧ CTa h' o [] := by
    unfold M_see_p102
    have hr := r1.refuse (k := 1) (by decide)
    rw [if_pos rfl, show M_refuses h1 o 1 = _ from m_refuses (k := 1) (by decide)]
    exact ⟨_, rfl, hr.1, hr.2, CTa.nil (by show jup h1 (o + 2) 1 _ o 1 = 0; rw [jup_ne (by omega), hh1, ju_eq])⟩
  rw [if_neg r1.told, hL.1, Int.tmod_eq_emod_of_nonneg (by omega), hdiv]
  unfold M_see_p39 M_see_p40
  by_cases a1 : 0 < (tp.length : Int)
  rotate_left
  · rw [if_neg a1, m_seeStop]; exact stop
  rw [if_pos a1]
  by_cases a2 : (tp.length : Int) % 3 = 0
  rotate_left
  · rw [if_neg a2, m_seeStop]; exact stop
  rw [if_pos a2]
  by_cases a3 : 16 < ((tp.length / 3 : Nat) : Int)
  · rw [if_pos a3, m_seeStop]; exact stop
  rw [if_neg a3]
  have hex : ¬ ∀ i, i < tp.length / 3 → spRow tp i := fun h => hs ⟨by omega, by omega, by omega, h⟩
  have key : ∀ m i, i + m = tp.length / 3 → (¬ ∀ j, i ≤ j → j < tp.length / 3 → spRow tp j) → M_see_L43 h1 o (tp.length : Int) 1 ((3 * i : Nat) : Int) = M_see_p102 h1 o (tp.length : Int) 0 := by
    intro m
    induction m with
    | zero => intro i hi hn; exact absurd (fun j h1 h2 => by omega) hn
    | succ m ih =>
      intro i hi hn
      by_cases c : spRow tp i
      · have e := ih (i + 1) (by omega) (fun hall => hn (fun j h1 h2 => by
          rcases Nat.eq_or_lt_of_le h1 with e | e
          · rw [← e]; exact c
          · exact hall j e h2))
        rw [← e]
        unfold M_see_L43
        exact jloop_l (s' := ((1 : Int), ((3 * (i + 1) : Nat) : Int))) ((m_rowsB hb hLb (by omega) (by omega)).1 c)
      · rw [← m_seeStop (v3 := ((3 * (i + 1) : Nat) : Int))]
        unfold M_see_L43
        exact jloop_l (s' := ((0 : Int), ((3 * (i + 1) : Nat) : Int))) ((m_rowsB hb hLb (by omega) (by omega)).2 c)
  rw [show M_see_L43 h1 o (tp.length : Int) 1 0 = _ from key (tp.length / 3) 0 (by omega) (fun hall => hex (fun j h => hall j (Nat.zero_le _) h))]
  exact stop
end SEE
