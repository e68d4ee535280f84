/-! reading a formula: the class's loops -/
section PAG
variable {T : jT} {P tq : Nat} {tp : List Int} {fo md op k : Nat} {g : Int} {K : List Int}
theorem c_sumL {rec : jRec} {R : spF} (hR : PRd T P tq tp fo md op (fun h => rec.2.2.2.2.2.1 h P) (spProd tp R)) (hG : spGr tp R) : ∀ (f i : Nat) (h : jH) (k : Nat) (g : Int) (K : List Int), i + f = 1600 → PSt T h P tq tp fo md k g op K → ∃ h' v, Pa_sum_L7 T rec h P 1 (i : Int) = some (v, h') ∧ PRs T P tq tp fo md op K (spSumL tp R f k g) h h' v := by
  have stop0 : ∀ (h : jH) (i : Int), Pa_sum_L7 T rec h P 0 i = some (0, h) := by
    intro h i
    unfold Pa_sum_L7
    refine jloop_r ?_
    show Pa_sum_B7 T rec h P 0 i = _
    unfold Pa_sum_B7
    rw [if_pos (Or.inl rfl), if_pos rfl]
    split <;> rfl
  intro f
  induction f with
  | zero =>
    intro i h k g K hi hs
    refine ⟨h, 1, ?_, PRs.good PFg.rf (by rw [List.append_nil]; exact hs)⟩
    unfold Pa_sum_L7
    refine jloop_r ?_
    show Pa_sum_B7 T rec h P 1 (i : Int) = _
    unfold Pa_sum_B7
    rw [if_neg (by omega), if_pos (Or.inr rfl)]
    rfl
  | succ f ih =>
    intro i h k g K hi hs
    obtain ⟨h1, e1, e2, e3, e4, -, -, e5⟩ := c_peek hs.1
    have hs1 := hs.fr e2 e5 (Nat.le_refl _)
    have hne := hs.ne
    have hl := hs.1.le
    unfold spSumL
    by_cases c : spTx tp k = 43 ∨ spTx tp k = 45
    rotate_left
    · rw [if_neg c]
      refine ⟨h1, 1, ?_, PRs.good (e2.g hne) (by rw [List.append_nil]; exact hs1)⟩
      unfold Pa_sum_L7
      refine jloop_r ?_
      show Pa_sum_B7 T rec h P 1 (i : Int) = _
      unfold Pa_sum_B7
      rw [if_pos (by omega), if_neg (by decide), e1]
      simp only [Option.bind_some]
      rw [if_neg (fun e => c (Or.inl e)), if_neg (fun e => c (Or.inr e))]
      rfl
    rw [if_pos c]
    have hk : k < tp.length := by rcases c with c | c; exact spByt_neg c (by decide); exact spByt_neg c (by decide)
    obtain ⟨hf2, hs2⟩ := hs1.next e3 hk
    obtain ⟨h2, v, x1, x2, x3, x4⟩ := hR _ _ _ _ hs2
    have hB : ∀ (h3 : jH), Fo_emit h2 fo (spTr (if spTx tp k = 43 then 1 else 2)) = some h3 → Pa_sum_B7 T rec h P 1 (i : Int) = some (.inl (v, ((i + 1 : Nat) : Int), h3)) := by
      intro h3 hem
      have hdy := ((hf2.g hne).tr x2).dyn hs1
      unfold Pa_sum_B7 Pa_sum_p37 Pa_sum_p71
      rw [if_pos (by omega), if_neg (by decide), e1]
      simp only [Option.bind_some]
      have x1' : rec.2.2.2.2.2.1 (jup h1 P 7 (wr (h1 P 7 + 1))) P = some (v, h2) := x1
      rw [x1']
      simp only [Option.bind_some]
      rw [hdy]
      simp only [Option.bind_some]
      rw [pw (x := (i : Int) + 1) (by omega) (by omega)]
      by_cases c1 : spTx tp k = 43
      · rw [if_pos c1, if_pos c1]
        rw [if_pos c1] at hem
        rw [show (30005 : Int) = spTr 1 from rfl, hem]
        rfl
      · have c2 : spTx tp k = 45 := c.resolve_left c1
        rw [if_neg c1, if_pos c2, if_neg c1]
        rw [if_neg c1] at hem
        rw [show (30006 : Int) = spTr 2 from rfl, hem]
        rfl
    cases hr : spProd tp R (spPk tp (k + 1)) g with
    | inl e =>
      obtain ⟨rfl, hb⟩ := x3 e hr
      obtain ⟨h3, y1, y2, y3⟩ := hb.emit (v := spTr (if spTx tp k = 43 then 1 else 2)) hne hs.2.1.1.2.2.2.2.1
      rw [spEmt_l, spThen_l]
      refine ⟨h3, 0, ?_, PRs.bad (((e2.g hne).tr ((hf2.g hne).tr x2)).tr y2) y3⟩
      refine Eq.trans ?_ (stop0 h3 ((i + 1 : Nat) : Int))
      unfold Pa_sum_L7
      refine jloop_l (s' := ((0 : Int), ((i + 1 : Nat) : Int), h3)) ?_
      show Pa_sum_B7 T rec h P 1 (i : Int) = _
      exact hB h3 y1
    | inr y =>
      obtain ⟨k1, g1, K1⟩ := y
      obtain ⟨rfl, hst⟩ := x4 k1 g1 K1 hr
      have hgr := spProd_gr hG _ _ _ _ _ hr
      have hp := (spPk_in (tp := tp) (k + 1)).1
      obtain ⟨h3, y1, y2, y3⟩ := hst.emit (c := if spTx tp k = 43 then 1 else 2) (by rw [List.length_append]; have := hs.2.2; omega)
      obtain ⟨h4, v4, z1, z2⟩ := ih (i + 1) h3 k1 g1 _ (by omega) y3
      have hfr := ((e2.g hne).tr ((hf2.g hne).tr x2)).tr y2
      refine ⟨h4, v4, ?_, ?_⟩
      · refine Eq.trans ?_ z1
        unfold Pa_sum_L7
        refine jloop_l (s' := ((1 : Int), ((i + 1 : Nat) : Int), h3)) ?_
        show Pa_sum_B7 T rec h P 1 (i : Int) = _
        exact hB h3 y1
      · rw [spEmt_r]
        rw [List.append_assoc] at z2
        exact PRs.seq hfr z2
theorem c_bothL {rec : jRec} {R : spF} (hR : PRd T P tq tp fo md op (fun h => rec.2.2.1 h P) R) (hG : spGr tp R) : ∀ (f i : Nat) (h : jH) (k : Nat) (g : Int) (K : List Int), i + f = 1600 → PSt T h P tq tp fo md k g op K → ∃ h' v, Pa_both_L7 T rec h P 1 (i : Int) = some (v, h') ∧ PRs T P tq tp fo md op K (spBothL tp R f k g) h h' v := by
  have stop0 : ∀ (h : jH) (i : Int), Pa_both_L7 T rec h P 0 i = some (0, h) := by
    intro h i
    unfold Pa_both_L7
    refine jloop_r ?_
    show Pa_both_B7 T rec h P 0 i = _
    unfold Pa_both_B7
    rw [if_pos (Or.inl rfl), if_pos rfl]
    split <;> rfl
  intro f
  induction f with
  | zero =>
    intro i h k g K hi hs
    refine ⟨h, 1, ?_, PRs.good PFg.rf (by rw [List.append_nil]; exact hs)⟩
    unfold Pa_both_L7
    refine jloop_r ?_
    show Pa_both_B7 T rec h P 1 (i : Int) = _
    unfold Pa_both_B7
    rw [if_neg (by omega), if_pos (Or.inr rfl)]
    rfl
  | succ f ih =>
    intro i h k g K hi hs
    obtain ⟨h1, e1, e2, e3, e4⟩ := c_word (w := [97, 110, 100]) (by decide) hs.1
    have hne := hs.ne
    have hl := hs.1.le
    unfold spBothL
    by_cases c : spWd tp g k spWand = true
    rotate_left
    · have c' : spWd tp g k [97, 110, 100] = false := Bool.eq_false_iff.mpr c
      rw [if_neg c]
      refine ⟨h1, 1, ?_, PRs.good (e2.g hne) (by rw [List.append_nil]; exact hs.fr e2 (e4 c').1 (Nat.le_refl _))⟩
      unfold Pa_both_L7
      refine jloop_r ?_
      show Pa_both_B7 T rec h P 1 (i : Int) = _
      unfold Pa_both_B7
      rw [if_pos (by omega), if_neg (by decide), e1]
      simp only [Option.bind_some]
      rw [c', if_pos (show (if false = true then (1 : Int) else 0) = 0 from rfl), if_pos (Or.inr True.intro)]
      rfl
    rw [if_pos c]
    have hp := (spPk_in (tp := tp) (k + 3)).1
    have hs2 : PSt T h1 P tq tp fo md (spPk tp (k + 3)) ((k + 3 : Nat) : Int) op K := hs.fr e2 (e3 c).1 (by omega)
    obtain ⟨h2, v, x1, x2, x3, x4⟩ := hR _ _ _ _ hs2
    have hB : ∀ (h3 : jH), Fo_emit h2 fo (spTr 10) = some h3 → Pa_both_B7 T rec h P 1 (i : Int) = some (.inl (v, ((i + 1 : Nat) : Int), h3)) := by
      intro h3 hem
      have hdy := ((e2.g hne).tr x2).dyn hs
      have c1 : spWd tp g k [97, 110, 100] = true := c
      unfold Pa_both_B7
      rw [if_pos (by omega), if_neg (by decide), e1]
      simp only [Option.bind_some]
      rw [c1, if_pos rfl, if_neg (by decide)]
      have x1' : rec.2.2.1 h1 P = some (v, h2) := x1
      rw [x1']
      simp only [Option.bind_some]
      rw [hdy]
      simp only [Option.bind_some]
      rw [pw (x := (i : Int) + 1) (by omega) (by omega), show (30001 : Int) = spTr 10 from rfl, hem]
      rfl
    cases hr : R (spPk tp (k + 3)) ((k + 3 : Nat) : Int) with
    | inl e =>
      obtain ⟨rfl, hb⟩ := x3 e hr
      obtain ⟨h3, y1, y2, y3⟩ := hb.emit (v := spTr 10) hne hs.2.1.1.2.2.2.2.1
      rw [spEmt_l, spThen_l]
      refine ⟨h3, 0, ?_, PRs.bad (((e2.g hne).tr x2).tr y2) y3⟩
      refine Eq.trans ?_ (stop0 h3 ((i + 1 : Nat) : Int))
      unfold Pa_both_L7
      refine jloop_l (s' := ((0 : Int), ((i + 1 : Nat) : Int), h3)) ?_
      show Pa_both_B7 T rec h P 1 (i : Int) = _
      exact hB h3 y1
    | inr y =>
      obtain ⟨k1, g1, K1⟩ := y
      obtain ⟨rfl, hst⟩ := x4 k1 g1 K1 hr
      have hgr := hG _ _ _ _ _ hr
      obtain ⟨h3, y1, y2, y3⟩ := hst.emit (c := 10) (by rw [List.length_append]; have := hs.2.2; omega)
      obtain ⟨h4, v4, z1, z2⟩ := ih (i + 1) h3 k1 g1 _ (by omega) y3
      have hfr := ((e2.g hne).tr x2).tr y2
      refine ⟨h4, v4, ?_, ?_⟩
      · refine Eq.trans ?_ z1
        unfold Pa_both_L7
        refine jloop_l (s' := ((1 : Int), ((i + 1 : Nat) : Int), h3)) ?_
        show Pa_both_B7 T rec h P 1 (i : Int) = _
        exact hB h3 y1
      · rw [spEmt_r]
        rw [List.append_assoc] at z2
        exact PRs.seq hfr z2
theorem c_testL {rec : jRec} {R : spF} (hR : PRd T P tq tp fo md op (fun h => rec.2.1 h P) (spBoth tp R)) (hG : spGr tp R) : ∀ (f i : Nat) (h : jH) (k : Nat) (g : Int) (K : List Int), i + f = 1600 → PSt T h P tq tp fo md k g op K → ∃ h' v, Pa_test_L7 T rec h P 1 (i : Int) = some (v, h') ∧ PRs T P tq tp fo md op K (spTestL tp R f k g) h h' v := by
  have stop0 : ∀ (h : jH) (i : Int), Pa_test_L7 T rec h P 0 i = some (0, h) := by
    intro h i
    unfold Pa_test_L7
    refine jloop_r ?_
    show Pa_test_B7 T rec h P 0 i = _
    unfold Pa_test_B7
    rw [if_pos (Or.inl rfl), if_pos rfl]
    split <;> rfl
  intro f
  induction f with
  | zero =>
    intro i h k g K hi hs
    refine ⟨h, 1, ?_, PRs.good PFg.rf (by rw [List.append_nil]; exact hs)⟩
    unfold Pa_test_L7
    refine jloop_r ?_
    show Pa_test_B7 T rec h P 1 (i : Int) = _
    unfold Pa_test_B7
    rw [if_neg (by omega), if_pos (Or.inr rfl)]
    rfl
  | succ f ih =>
    intro i h k g K hi hs
    obtain ⟨h1, e1, e2, e3, e4⟩ := c_word (w := [111, 114]) (by decide) hs.1
    have hne := hs.ne
    have hl := hs.1.le
    unfold spTestL
    by_cases c : spWd tp g k spWor = true
    rotate_left
    · have c' : spWd tp g k [111, 114] = false := Bool.eq_false_iff.mpr c
      rw [if_neg c]
      refine ⟨h1, 1, ?_, PRs.good (e2.g hne) (by rw [List.append_nil]; exact hs.fr e2 (e4 c').1 (Nat.le_refl _))⟩
      unfold Pa_test_L7
      refine jloop_r ?_
      show Pa_test_B7 T rec h P 1 (i : Int) = _
      unfold Pa_test_B7
      rw [if_pos (by omega), if_neg (by decide), e1]
      simp only [Option.bind_some]
      rw [c', if_pos (show (if false = true then (1 : Int) else 0) = 0 from rfl), if_pos (Or.inr True.intro)]
      rfl
    rw [if_pos c]
    have hp := (spPk_in (tp := tp) (k + 2)).1
    have hs2 : PSt T h1 P tq tp fo md (spPk tp (k + 2)) ((k + 2 : Nat) : Int) op K := hs.fr e2 (e3 c).1 (by omega)
    obtain ⟨h2, v, x1, x2, x3, x4⟩ := hR _ _ _ _ hs2
    have hB : ∀ (h3 : jH), Fo_emit h2 fo (spTr 11) = some h3 → Pa_test_B7 T rec h P 1 (i : Int) = some (.inl (v, ((i + 1 : Nat) : Int), h3)) := by
      intro h3 hem
      have hdy := ((e2.g hne).tr x2).dyn hs
      have c1 : spWd tp g k [111, 114] = true := c
      unfold Pa_test_B7
      rw [if_pos (by omega), if_neg (by decide), e1]
      simp only [Option.bind_some]
      rw [c1, if_pos rfl, if_neg (by decide)]
      have x1' : rec.2.1 h1 P = some (v, h2) := x1
      rw [x1']
      simp only [Option.bind_some]
      rw [hdy]
      simp only [Option.bind_some]
      rw [pw (x := (i : Int) + 1) (by omega) (by omega), show (30000 : Int) = spTr 11 from rfl, hem]
      rfl
    cases hr : spBoth tp R (spPk tp (k + 2)) ((k + 2 : Nat) : Int) with
    | inl e =>
      obtain ⟨rfl, hb⟩ := x3 e hr
      obtain ⟨h3, y1, y2, y3⟩ := hb.emit (v := spTr 11) hne hs.2.1.1.2.2.2.2.1
      rw [spEmt_l, spThen_l]
      refine ⟨h3, 0, ?_, PRs.bad (((e2.g hne).tr x2).tr y2) y3⟩
      refine Eq.trans ?_ (stop0 h3 ((i + 1 : Nat) : Int))
      unfold Pa_test_L7
      refine jloop_l (s' := ((0 : Int), ((i + 1 : Nat) : Int), h3)) ?_
      show Pa_test_B7 T rec h P 1 (i : Int) = _
      exact hB h3 y1
    | inr y =>
      obtain ⟨k1, g1, K1⟩ := y
      obtain ⟨rfl, hst⟩ := x4 k1 g1 K1 hr
      have hgr := spBoth_gr hG _ _ _ _ _ hr
      obtain ⟨h3, y1, y2, y3⟩ := hst.emit (c := 11) (by rw [List.length_append]; have := hs.2.2; omega)
      obtain ⟨h4, v4, z1, z2⟩ := ih (i + 1) h3 k1 g1 _ (by omega) y3
      have hfr := ((e2.g hne).tr x2).tr y2
      refine ⟨h4, v4, ?_, ?_⟩
      · refine Eq.trans ?_ z1
        unfold Pa_test_L7
        refine jloop_l (s' := ((1 : Int), ((i + 1 : Nat) : Int), h3)) ?_
        show Pa_test_B7 T rec h P 1 (i : Int) = _
        exact hB h3 y1
      · rw [spEmt_r]
        rw [List.append_assoc] at z2
        exact PRs.seq hfr z2
end PAG
