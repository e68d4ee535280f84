/-! the reference reads tests: and, or, square brackets -/
section MTF
variable {o : Nat} {tp : List Int} {md k op bs : Nat} {g : Int} {W C : List Int}
theorem t_to76 {h : jH} (hs : MK h o tp md k g op bs W C) (hc : spTx tp k ≠ 93 ∨ ¬ (25 : Int) ∈ W) : ∃ h1, M_qGoesOnTest h o = M_qGoesOnTest_p76 h1 o ∧ MFw o h h1 ∧ MK h1 o tp md k g op bs W C := by
  obtain ⟨h1, a1, a2, a3, a4, -⟩ := m_look hs.1
  have s1 := hs.fr a2 a4 (Nat.le_refl _)
  refine ⟨h1, ?_, a2, s1⟩
  unfold M_qGoesOnTest M_qGoesOnTest_L0
  refine jloop_x ?_
  unfold M_qGoesOnTest_B0
  rw [if_pos hs.1.2.2.2, a1, Option.bind_some]
  dsimp only
  by_cases c : spTx tp k = 93
  · rw [if_pos c, k_has s1, Option.bind_some, if_neg (hc.resolve_left (fun h => h c)), if_pos rfl]
  · rw [if_neg c]
theorem t_and {h : jH} (hs : MK h o tp md k g op bs W C) (hw : spWd tp g k spWand = true) : ∃ h1, M_qGoesOnTest h o = M_qGoesOnTest_L87 h1 o ∧ MFw o h h1 ∧ MK h1 o tp md (spPk tp (k + 3)) ((k + 3 : Nat) : Int) op bs W C := by
  obtain ⟨h1, a1, a2, a3⟩ := t_to76 hs (Or.inl (fun e => by rw [spWd_noLt (by rw [e]; decide) (by decide)] at hw; cases hw))
  obtain ⟨h2, b1, b2, b3, -⟩ := m_takes (r := o + 50) (n := 3) (w := spWand) (by omega) rfl (by decide) a3.2.1.1.2.2.1 a3.1
  have hpk := (spPk_in (tp := tp) (k + 3)).1
  refine ⟨h2, ?_, a2.tr b2, a3.fr b2 (b3 hw) (by show _ ≤ spPk tp (k + 3); omega)⟩
  rw [a1]
  unfold M_qGoesOnTest_p76
  rw [b1, Option.bind_some]
  dsimp only
  rw [hw, if_neg (show ¬ (if true = true then (1 : Int) else 0) = 0 by decide)]
theorem t_or {h : jH} (hs : MK h o tp md k g op bs W C) (hn : spWd tp g k spWand = false) (hw : spWd tp g k spWor = true) : ∃ h1, M_qGoesOnTest h o = M_qGoesOnTest_L137 h1 o ∧ MFw o h h1 ∧ MK h1 o tp md (spPk tp (k + 2)) ((k + 2 : Nat) : Int) op bs W C := by
  obtain ⟨h1, a1, a2, a3⟩ := t_to76 hs (Or.inl (fun e => by rw [spWd_noLt (by rw [e]; decide) (by decide)] at hw; cases hw))
  obtain ⟨h2, b1, b2, -, b4⟩ := m_takes (r := o + 50) (n := 3) (w := spWand) (by omega) rfl (by decide) a3.2.1.1.2.2.1 a3.1
  have s2 := a3.fr b2 (b4 hn).1 (Nat.le_refl _)
  obtain ⟨h3, c1, c2, c3, -⟩ := m_takes (r := o + 51) (n := 2) (w := spWor) (by omega) rfl (by decide) s2.2.1.1.2.2.2.1 s2.1
  have hpk := (spPk_in (tp := tp) (k + 2)).1
  refine ⟨h3, ?_, a2.tr (b2.tr c2), s2.fr c2 (c3 hw) (by show _ ≤ spPk tp (k + 2); omega)⟩
  rw [a1]
  unfold M_qGoesOnTest_p76
  rw [b1, Option.bind_some]
  dsimp only
  rw [hn, if_pos (show (if false = true then (1 : Int) else 0) = 0 from rfl), c1, Option.bind_some]
  dsimp only
  rw [hw, if_neg (show ¬ (if true = true then (1 : Int) else 0) = 0 by decide)]
/-- neither and nor or -/
theorem t_end {h : jH} (hs : MK h o tp md k g op bs W C) (hn : spWd tp g k spWand = false) (hw : spWd tp g k spWor = false) (hc : spTx tp k ≠ 93 ∨ ¬ (25 : Int) ∈ W) : ((25 : Int) ∈ W → tBd o h (tG o h) (1, k)) ∧ (¬ (25 : Int) ∈ W → ∃ h1, tG o h = M_qTest_L2 h1 o 0 ∧ MFw o h h1 ∧ MK h1 o tp md k g op bs W C) := by
  obtain ⟨h1, a1, a2, a3⟩ := t_to76 hs hc
  obtain ⟨h2, b1, b2, -, b4⟩ := m_takes (r := o + 50) (n := 3) (w := spWand) (by omega) rfl (by decide) a3.2.1.1.2.2.1 a3.1
  have s2 := a3.fr b2 (b4 hn).1 (Nat.le_refl _)
  obtain ⟨h3, c1, c2, -, c4⟩ := m_takes (r := o + 51) (n := 2) (w := spWor) (by omega) rfl (by decide) s2.2.1.1.2.2.2.1 s2.1
  have s3 := s2.fr c2 (c4 hw).1 (Nat.le_refl _)
  have f3 := a2.tr (b2.tr c2)
  have hG : M_qGoesOnTest h o = Option.bind (M_qHasSquare h3 o) (fun b11 => (if b11 = 0 then some (0, h3) else Option.bind (M_fail h3 o 1 (h3 o 2)) (fun b13 => some (0, b13)))) := by
    rw [a1]
    unfold M_qGoesOnTest_p76
    rw [b1, Option.bind_some]
    dsimp only
    rw [hn, if_pos (show (if false = true then (1 : Int) else 0) = 0 from rfl), c1, Option.bind_some]
    dsimp only
    rw [hw, if_pos (show (if false = true then (1 : Int) else 0) = 0 from rfl), if_pos s3.1.2.2.2]
  rw [k_has s3, Option.bind_some, (c4 hw).2] at hG
  unfold tG
  rw [hG]
  refine ⟨fun d => ?_, fun d => ?_⟩
  · obtain ⟨h4, x1, x2, x3, -⟩ := m_failAt (o := o) (h := h3) (e := (1, k)) s3.1.2.2.2 (show ¬ (1 : Int) = 0 by decide)
    rw [if_pos d, if_neg (show ¬ (1 : Int) = 0 by decide), show M_fail h3 o 1 (k : Int) = _ from x1, Option.bind_some, Option.bind_some]
    dsimp only
    rw [if_pos (show (0 : Int) = 0 from rfl)]
    exact tBd.L (f3.k.tr x2.k) x3
  · rw [if_neg d, if_pos (show (0 : Int) = 0 from rfl), Option.bind_some]
    dsimp only
    rw [if_pos (show (0 : Int) = 0 from rfl)]
    exact ⟨h3, rfl, f3, s3⟩
theorem k_pushed {h : jH} {v : Int} (hs : MK h o tp md k g op bs W C) (hb : W.length + C.length + 1 ≤ k) : (if (0 : Int) ≤ (h o 101) ∧ ((h o 101) : Int).toNat < 1700 then some ((1 : Int), (jup (jup h (o + 66) ((h o 101) : Int).toNat v) o 101 (wr (((jup h (o + 66) ((h o 101) : Int).toNat v) o 101) + 1)))) else none) = some (1, jup (jup h (o + 66) W.length v) o 101 ((W.length : Int) + 1)) ∧ MKg o h (jup (jup h (o + 66) W.length v) o 101 ((W.length : Int) + 1)) ∧ MK (jup (jup h (o + 66) W.length v) o 101 ((W.length : Int) + 1)) o tp md k g op bs (v :: W) C := by
  have hl := hs.1.le
  have h101 := hs.2.2.2.2.2.1.1.1
  have hp := k_push (v := v) (by omega) hs.2.2.2.2.2.1
  obtain ⟨h1, hh1⟩ : ∃ h1 : jH, h1 = jup (jup h (o + 66) W.length v) o 101 ((W.length : Int) + 1) := ⟨_, rfl⟩
  rw [← hh1] at hp ⊢
  have go : ∀ z, z ≠ o → z ≠ o + 66 → h1 z = h z := fun z z1 z2 => by rw [hh1, jup_ne z1, jup_ne z2]
  have gf : ∀ f, f ≠ 101 → h1 o f = h o f := fun f hf => by rw [hh1, ju_ne hf, jup_ne (by omega)]
  refine ⟨?_, ⟨fun z z1 _ z3 => go z z1 z3, fun f _ _ _ _ _ _ f7 _ _ => gf f f7⟩, hs.1.fd (go _ (by omega) (by omega)) (fun f hf => gf f (by omega)), hs.2.1.fr (fun z z1 _ z3 => go z z1 z3), by rw [gf 44 (by decide)]; exact hs.2.2.1, by rw [gf 102 (by decide)]; exact hs.2.2.2.1, by rw [gf 103 (by decide)]; exact hs.2.2.2.2.1, hp, by rw [List.length_cons]; omega⟩
  rw [h101, if_pos (by omega), Int.toNat_natCast, jup_ne (by omega), h101, pw (by omega) (by omega), ← hh1]
theorem t_87 (hW : W.head? ≠ some 10) : ∀ (m C : List Int) (h : jH), (∀ x ∈ m, x = 10) → MK h o tp md k g op bs (m ++ W) C → (m ++ W).length + C.length + 1 ≤ k → ∃ h', M_qGoesOnTest_L87 h o = some (1, h') ∧ MKg o h h' ∧ MK h' o tp md k g op bs (10 :: W) (C ++ m) := by
  unfold M_qGoesOnTest_L87
  intro m
  induction m with
  | nil =>
    intro C h _ hs hb
    rw [List.nil_append] at hs hb
    obtain ⟨p1, p2, p3⟩ := k_pushed (v := 10) hs hb
    refine ⟨_, jloop_r ?_, p2, by rw [List.append_nil]; exact p3⟩
    unfold M_qGoesOnTest_B87
    rw [k_isOn hs, Option.bind_some, if_neg hW, if_pos rfl, p1]
    rfl
  | cons x m ih =>
    intro C h hm hs hb
    obtain ⟨h1, e1, e2, e3⟩ := k_drop (W := m ++ W) (w := x) hs
    rw [List.cons_append, List.length_cons] at hb
    obtain ⟨h', y1, y2, y3⟩ := ih (C ++ [x]) h1 (fun y hy => hm y (List.mem_cons_of_mem _ hy)) e3 (by rw [List.length_append (as := C)]; show _ + (C.length + 1) + 1 ≤ k; omega)
    refine ⟨h', (jloop_l (s' := h1) ?_).trans y1, e2.tr y2, by rw [List.append_assoc] at y3; exact y3⟩
    have hx := hm x List.mem_cons_self
    unfold M_qGoesOnTest_B87
    rw [k_isOn hs, Option.bind_some, if_pos (show (x :: m ++ W).head? = some 10 by rw [hx]; rfl), if_neg (show ¬ (1 : Int) = 0 by decide), e1, Option.bind_some]
theorem t_137 (hW : W.head? ≠ some 10 ∧ W.head? ≠ some 11) : ∀ (m C : List Int) (h : jH), (∀ x ∈ m, x = 10 ∨ x = 11) → MK h o tp md k g op bs (m ++ W) C → (m ++ W).length + C.length + 1 ≤ k → ∃ h', M_qGoesOnTest_L137 h o = some (1, h') ∧ MKg o h h' ∧ MK h' o tp md k g op bs (11 :: W) (C ++ m) := by
  unfold M_qGoesOnTest_L137
  intro m
  induction m with
  | nil =>
    intro C h _ hs hb
    rw [List.nil_append] at hs hb
    obtain ⟨p1, p2, p3⟩ := k_pushed (v := 11) hs hb
    refine ⟨_, jloop_r ?_, p2, by rw [List.append_nil]; exact p3⟩
    unfold M_qGoesOnTest_B137
    rw [k_isOn hs, Option.bind_some, if_neg hW.1, if_pos rfl, k_isOn hs, Option.bind_some, if_neg hW.2, if_pos rfl, p1]
    rfl
  | cons x m ih =>
    intro C h hm hs hb
    obtain ⟨h1, e1, e2, e3⟩ := k_drop (W := m ++ W) (w := x) hs
    rw [List.cons_append, List.length_cons] at hb
    obtain ⟨h', y1, y2, y3⟩ := ih (C ++ [x]) h1 (fun y hy => hm y (List.mem_cons_of_mem _ hy)) e3 (by rw [List.length_append (as := C)]; show _ + (C.length + 1) + 1 ≤ k; omega)
    refine ⟨h', (jloop_l (s' := h1) ?_).trans y1, e2.tr y2, by rw [List.append_assoc] at y3; exact y3⟩
    have hx := hm x List.mem_cons_self
    unfold M_qGoesOnTest_B137 M_qGoesOnTest_p155
    rw [k_isOn hs, k_isOn hs, e1, Option.bind_some]
    rcases hx with e | e
    · rw [if_pos (show (x :: m ++ W).head? = some 10 by rw [e]; rfl), if_neg (show ¬ (1 : Int) = 0 by decide)]; rfl
    · rw [if_neg (show ¬ (x :: m ++ W).head? = some 10 by rw [e]; show ¬ some (11 : Int) = some 10; decide), if_pos (show (0 : Int) = 0 from rfl), Option.bind_some, if_pos (show (x :: m ++ W).head? = some 11 by rw [e]; rfl), if_neg (show ¬ (1 : Int) = 0 by decide)]; rfl
theorem t_33 (hop : op ≤ 10) : ∀ (p C : List Int) (h : jH), (∀ x ∈ p, x = 10 ∨ x = 11) → MK h o tp md k g (op + 1) bs (p ++ 25 :: W) C → ∃ h', M_qGoesOnTest_L33 h o = Option.bind (M_qDropsNots h' o) (fun b27 => some (.inl b27)) ∧ MKg o h h' ∧ MK h' o tp md k g op bs W (C ++ p) := by
  unfold M_qGoesOnTest_L33
  intro p
  induction p with
  | nil =>
    intro C h _ hs
    rw [List.nil_append] at hs
    obtain ⟨f1, s1, p3, p4⟩ := k_pop hs
    obtain ⟨f2, s2⟩ := k_dec s1
    have hl := hs.1.le
    have hbd := hs.2.2.2.2.2.2
    rw [List.length_cons] at hbd
    refine ⟨_, jloop_x ?_, f1.tr f2, by rw [List.append_nil]; exact s2⟩
    unfold M_qGoesOnTest_B33
    rw [k_isOn hs, Option.bind_some, if_pos (show (25 :: W).head? = some 25 from rfl), if_neg (show ¬ (1 : Int) = 0 by decide), p4, pw (by omega) (by omega), show (W.length : Int) + 1 - 1 = (W.length : Int) by omega, ju_ne (show 102 ≠ 101 by decide), hs.2.2.2.1, pw (by omega) (by omega), show ((op + 1 : Nat) : Int) - 1 = (op : Int) by omega]
  | cons x p ih =>
    intro C h hm hs
    obtain ⟨h1, e1, e2, e3⟩ := k_drop (W := p ++ 25 :: W) (w := x) hs
    obtain ⟨h', y1, y2, y3⟩ := ih (C ++ [x]) h1 (fun y hy => hm y (List.mem_cons_of_mem _ hy)) e3
    refine ⟨h', (jloop_l (s' := h1) ?_).trans y1, e2.tr y2, by rw [List.append_assoc] at y3; exact y3⟩
    have hx := hm x List.mem_cons_self
    unfold M_qGoesOnTest_B33
    rw [k_isOn hs, Option.bind_some, if_neg (show ¬ (x :: p ++ 25 :: W).head? = some 25 from fun e => by have := Option.some.inj e; omega), if_pos (show (0 : Int) = 0 from rfl), e1, Option.bind_some]
theorem t_close {h : jH} {p : List Int} (hop : op ≤ 10) (hp : ∀ x ∈ p, x = 10 ∨ x = 11) (hs : MK h o tp md k g (op + 1) bs (p ++ 25 :: W) C) (hc : spTx tp k = 93) : ∃ h', tG o h = tE o h' ∧ MKg o h h' ∧ MK h' o tp md (spPk tp (k + 1)) g op bs W (C ++ p) := by
  obtain ⟨h1, a1, a2, a3, a4, -⟩ := m_look hs.1
  have s1 := hs.fr a2 a4 (Nat.le_refl _)
  have hk : k < tp.length := spByt_neg hc (by decide)
  obtain ⟨f2, s2⟩ := s1.p.ju2 a3 hk (by have := s1.2.2.2.2.2.2; omega)
  obtain ⟨h3, b1, b2, b3⟩ := t_33 hop p C _ hp s2
  refine ⟨h3, ?_, a2.k.tr (f2.tr b2), b3⟩
  have hB : M_qGoesOnTest_B0 h o = Option.bind (M_qDropsNots h3 o) (fun b27 => some (.inl b27)) := by
    unfold M_qGoesOnTest_B0
    rw [if_pos hs.1.2.2.2, a1, Option.bind_some]
    dsimp only
    rw [if_pos hc, k_has s1, Option.bind_some, if_pos (List.mem_append_right _ List.mem_cons_self), if_neg (show ¬ (1 : Int) = 0 by decide), b1]
  unfold tG tE M_qGoesOnTest M_qGoesOnTest_L0
  rw [jloop_b (f := fun s : jH => M_qGoesOnTest_B0 s o) (s := h) hB]
  cases M_qDropsNots h3 o with
  | none => rfl
  | some x => rfl
theorem tG_on {h h1 : jH} (e : M_qGoesOnTest h o = some (1, h1)) : tG o h = tT o h1 := by
  unfold tG tT
  rw [e, Option.bind_some]
  dsimp only
  rw [if_neg (show ¬ (1 : Int) = 0 by decide)]
theorem tE_G {h : jH} (hw : W.head? ≠ some 12) (hs : MK h o tp md k g op bs W C) : tE o h = tG o h := by
  unfold tE
  rw [k_nots0 hw hs, Option.bind_some]
theorem tOn.c {v : Int} (h : tOn W) (hv : v = 25 ∨ v = 12 ∨ v = 10 ∨ v = 11) : tOn (v :: W) := fun x hx => by
  rcases List.mem_cons.mp hx with e | e
  · rw [e]; exact hv
  · exact h x e
theorem tBothL {F : spF} (hF : tRd o tp md bs op F) (hG : spGr tp F) (hOn : tOn W) (hW : W.head? ≠ some 10) : ∀ (f : Nat) (k : Nat) (g : Int) (m C : List Int) (h : jH), tp.length ≤ k + f → (∀ x ∈ m, x = 10) → MK h o tp md k g op bs (m ++ W) C → (∀ e, spBothL tp F f k g = .inl e → tBd o h (tG o h) e) ∧ ∀ k2 g2 K, spBothL tp F f k g = .inr (k2, g2, K) → ∃ h' m' C', tG o h = tG o h' ∧ MKg o h h' ∧ MK h' o tp md k2 g2 op bs (m' ++ W) C' ∧ (∀ x ∈ m', x = 10) ∧ C' ++ m' = C ++ m ++ K ∧ spWd tp g2 k2 spWand = false := by
  intro f
  induction f with
  | zero =>
    intro k g m C h hf hm hs
    have hno := spTx_no (tp := tp) (k := k) hf
    refine ⟨fun e he => (by cases he), fun k2 g2 K he => ?_⟩
    cases he
    exact ⟨h, m, C, rfl, MKg.rf, hs, hm, by rw [List.append_nil], spWd_noLt (by rw [hno]; decide) (by decide)⟩
  | succ f ih =>
    intro k g m C h hf hm hs
    unfold spBothL
    cases c : spWd tp g k spWand with
    | false =>
      rw [if_neg (show ¬ false = true by decide)]
      refine ⟨fun e he => (by cases he), fun k2 g2 K he => ?_⟩
      cases he
      exact ⟨h, m, C, rfl, MKg.rf, hs, hm, by rw [List.append_nil], c⟩
    | true =>
    rw [if_pos (show true = true from rfl)]
    obtain ⟨h1, a1, a2, a3⟩ := t_and hs c
    have hbd := hs.2.2.2.2.2.2
    have hpk := (spPk_in (tp := tp) (k + 3)).1
    obtain ⟨h2, b1, b2, b3⟩ := t_87 hW m C h1 hm a3 (by omega)
    have hF2 : tG o h = tT o h2 := tG_on (a1.trans b1)
    have f2 : MKg o h h2 := a2.k.tr b2
    obtain ⟨p1, p2⟩ := hF h2 _ _ _ _ (hOn.c (by omega)) b3
    rw [hF2]
    cases hp : F (spPk tp (k + 3)) ((k + 3 : Nat) : Int) with
    | inl e0 =>
      refine ⟨fun e he => ?_, fun k2 g2 K he => (by cases he)⟩
      cases he
      exact tBd.tr f2 (p1 e0 hp)
    | inr x =>
      obtain ⟨k1, g1, K1⟩ := x
      obtain ⟨h3, q1, q2, q3⟩ := p2 k1 g1 K1 hp
      have hgr := hG _ _ _ _ _ hp
      rw [q1, tE_G (W := 10 :: W) (fun e => absurd (Option.some.inj e) (by decide)) q3]
      obtain ⟨i1, i2⟩ := ih k1 g1 [10] _ h3 (by omega) (fun x hx => List.mem_singleton.mp hx) q3
      show (∀ e, (match spBothL tp F f k1 g1 with | .inl e => (.inl e : spR) | .inr (k2, g2, K2) => .inr (k2, g2, (K1 ++ [10]) ++ K2)) = .inl e → _) ∧ ∀ k2 g2 K, (match spBothL tp F f k1 g1 with | .inl e => (.inl e : spR) | .inr (k2, g2, K2) => .inr (k2, g2, (K1 ++ [10]) ++ K2)) = .inr (k2, g2, K) → _
      cases hl : spBothL tp F f k1 g1 with
      | inl e0 =>
        refine ⟨fun e he => ?_, fun k2 g2 K he => (by cases he)⟩
        cases he
        exact tBd.tr (f2.tr q2) (i1 e0 hl)
      | inr y =>
        obtain ⟨k2', g2', K2⟩ := y
        refine ⟨fun e he => (by cases he), fun k2 g2 K he => ?_⟩
        cases he
        obtain ⟨h4, m', C', r1, r2, r3, r4, r5, r6⟩ := i2 k2' g2' K2 hl
        exact ⟨h4, m', C', r1, f2.tr (q2.tr r2), r3, r4, by rw [r5]; simp only [List.append_assoc], r6⟩
theorem tBoth {F : spF} (hF : tRd o tp md bs op F) (hG : spGr tp F) (hOn : tOn W) (hW : W.head? ≠ some 10 ∧ W.head? ≠ some 12) {h : jH} (hs : MK h o tp md k g op bs W C) : (∀ e, spBoth tp F k g = .inl e → tBd o h (tT o h) e) ∧ ∀ k2 g2 K, spBoth tp F k g = .inr (k2, g2, K) → ∃ h' m' C', tT o h = tG o h' ∧ MKg o h h' ∧ MK h' o tp md k2 g2 op bs (m' ++ W) C' ∧ (∀ x ∈ m', x = 10) ∧ C' ++ m' = C ++ K ∧ spWd tp g2 k2 spWand = false := by
  obtain ⟨p1, p2⟩ := hF h _ _ _ _ hOn hs
  have hl := hs.1.le
  unfold spBoth
  cases hp : F k g with
  | inl e0 =>
    refine ⟨fun e he => ?_, fun k2 g2 K he => (by cases he)⟩
    cases he
    exact p1 e0 hp
  | inr x =>
    obtain ⟨k1, g1, K1⟩ := x
    obtain ⟨h3, q1, q2, q3⟩ := p2 k1 g1 K1 hp
    rw [q1, tE_G hW.2 q3]
    obtain ⟨i1, i2⟩ := tBothL hF hG hOn hW.1 1600 k1 g1 [] _ h3 (by omega) (fun x hx => absurd hx List.not_mem_nil) q3
    show (∀ e, (match spBothL tp F 1600 k1 g1 with | .inl e => (.inl e : spR) | .inr (k2, g2, K2) => .inr (k2, g2, K1 ++ K2)) = .inl e → _) ∧ ∀ k2 g2 K, (match spBothL tp F 1600 k1 g1 with | .inl e => (.inl e : spR) | .inr (k2, g2, K2) => .inr (k2, g2, K1 ++ K2)) = .inr (k2, g2, K) → _
    cases hl : spBothL tp F 1600 k1 g1 with
    | inl e0 =>
      refine ⟨fun e he => ?_, fun k2 g2 K he => (by cases he)⟩
      cases he
      exact tBd.tr q2 (i1 e0 hl)
    | inr y =>
      obtain ⟨k2', g2', K2⟩ := y
      refine ⟨fun e he => (by cases he), fun k2 g2 K he => ?_⟩
      cases he
      obtain ⟨h4, m', C', r1, r2, r3, r4, r5, r6⟩ := i2 k2' g2' K2 hl
      exact ⟨h4, m', C', r1, q2.tr r2, r3, r4, by rw [r5]; simp only [List.append_assoc, List.nil_append], r6⟩
theorem tTestL {F : spF} (hF : tRd o tp md bs op F) (hG : spGr tp F) (hOn : tOn W) (hW : W.head? ≠ some 10 ∧ W.head? ≠ some 11) : ∀ (f : Nat) (k : Nat) (g : Int) (m C : List Int) (h : jH), tp.length ≤ k + f → (∀ x ∈ m, x = 10 ∨ x = 11) → spWd tp g k spWand = false → MK h o tp md k g op bs (m ++ W) C → (∀ e, spTestL tp F f k g = .inl e → tBd o h (tG o h) e) ∧ ∀ k2 g2 K, spTestL tp F f k g = .inr (k2, g2, K) → ∃ h' m' C', tG o h = tG o h' ∧ MKg o h h' ∧ MK h' o tp md k2 g2 op bs (m' ++ W) C' ∧ (∀ x ∈ m', x = 10 ∨ x = 11) ∧ C' ++ m' = C ++ m ++ K ∧ spWd tp g2 k2 spWand = false ∧ spWd tp g2 k2 spWor = false := by
  intro f
  induction f with
  | zero =>
    intro k g m C h hf hm hn hs
    have hno := spTx_no (tp := tp) (k := k) hf
    refine ⟨fun e he => (by cases he), fun k2 g2 K he => ?_⟩
    cases he
    exact ⟨h, m, C, rfl, MKg.rf, hs, hm, by rw [List.append_nil], hn, spWd_noLt (by rw [hno]; decide) (by decide)⟩
  | succ f ih =>
    intro k g m C h hf hm hn hs
    unfold spTestL
    cases c : spWd tp g k spWor with
    | false =>
      rw [if_neg (show ¬ false = true by decide)]
      refine ⟨fun e he => (by cases he), fun k2 g2 K he => ?_⟩
      cases he
      exact ⟨h, m, C, rfl, MKg.rf, hs, hm, by rw [List.append_nil], hn, c⟩
    | true =>
    rw [if_pos (show true = true from rfl)]
    obtain ⟨h1, a1, a2, a3⟩ := t_or hs hn c
    have hbd := hs.2.2.2.2.2.2
    have hpk := (spPk_in (tp := tp) (k + 2)).1
    obtain ⟨h2, b1, b2, b3⟩ := t_137 hW m C h1 hm a3 (by omega)
    have hF2 : tG o h = tT o h2 := tG_on (a1.trans b1)
    have f2 : MKg o h h2 := a2.k.tr b2
    obtain ⟨p1, p2⟩ := tBoth hF hG (W := 11 :: W) (hOn.c (by omega)) ⟨fun e => absurd (Option.some.inj e) (by decide), fun e => absurd (Option.some.inj e) (by decide)⟩ b3
    rw [hF2]
    cases hp : spBoth tp F (spPk tp (k + 2)) ((k + 2 : Nat) : Int) with
    | inl e0 =>
      refine ⟨fun e he => ?_, fun k2 g2 K he => (by cases he)⟩
      cases he
      exact tBd.tr f2 (p1 e0 hp)
    | inr x =>
      obtain ⟨k1, g1, K1⟩ := x
      obtain ⟨h3, m1, C1, q1, q2, q3, q4, q5, q6⟩ := p2 k1 g1 K1 hp
      have hgr := spBoth_gr hG _ _ _ _ _ hp
      rw [q1]
      have q3' : MK h3 o tp md k1 g1 op bs ((m1 ++ [11]) ++ W) C1 := by rw [List.append_assoc]; exact q3
      obtain ⟨i1, i2⟩ := ih k1 g1 (m1 ++ [11]) C1 h3 (by omega) (fun x hx => by
        rcases List.mem_append.mp hx with hx | hx
        · exact Or.inl (q4 x hx)
        · exact Or.inr (List.mem_singleton.mp hx)) q6 q3'
      show (∀ e, (match spTestL tp F f k1 g1 with | .inl e => (.inl e : spR) | .inr (k2, g2, K2) => .inr (k2, g2, (K1 ++ [11]) ++ K2)) = .inl e → _) ∧ ∀ k2 g2 K, (match spTestL tp F f k1 g1 with | .inl e => (.inl e : spR) | .inr (k2, g2, K2) => .inr (k2, g2, (K1 ++ [11]) ++ K2)) = .inr (k2, g2, K) → _
      cases hl : spTestL tp F f k1 g1 with
      | inl e0 =>
        refine ⟨fun e he => ?_, fun k2 g2 K he => (by cases he)⟩
        cases he
        exact tBd.tr (f2.tr q2) (i1 e0 hl)
      | inr y =>
        obtain ⟨k2', g2', K2⟩ := y
        refine ⟨fun e he => (by cases he), fun k2 g2 K he => ?_⟩
        cases he
        obtain ⟨h4, m', C', r1, r2, r3, r4, r5, r6⟩ := i2 k2' g2' K2 hl
        exact ⟨h4, m', C', r1, f2.tr (q2.tr r2), r3, r4, by rw [r5, ← List.append_assoc C1, q5]; simp only [List.append_assoc], r6⟩
theorem tTest {F : spF} (hF : tRd o tp md bs op F) (hG : spGr tp F) (hOn : tOn W) (hW : W.head? ≠ some 10 ∧ W.head? ≠ some 11 ∧ W.head? ≠ some 12) {h : jH} (hs : MK h o tp md k g op bs W C) : (∀ e, spTest tp F k g = .inl e → tBd o h (tT o h) e) ∧ ∀ k2 g2 K, spTest tp F k g = .inr (k2, g2, K) → ∃ h' m' C', tT o h = tG o h' ∧ MKg o h h' ∧ MK h' o tp md k2 g2 op bs (m' ++ W) C' ∧ (∀ x ∈ m', x = 10 ∨ x = 11) ∧ C' ++ m' = C ++ K ∧ spWd tp g2 k2 spWand = false ∧ spWd tp g2 k2 spWor = false := by
  obtain ⟨p1, p2⟩ := tBoth hF hG hOn ⟨hW.1, hW.2.2⟩ hs
  have hl := hs.1.le
  unfold spTest
  cases hp : spBoth tp F k g with
  | inl e0 =>
    refine ⟨fun e he => ?_, fun k2 g2 K he => (by cases he)⟩
    cases he
    exact p1 e0 hp
  | inr x =>
    obtain ⟨k1, g1, K1⟩ := x
    obtain ⟨h3, m1, C1, q1, q2, q3, q4, q5, q6⟩ := p2 k1 g1 K1 hp
    rw [q1]
    obtain ⟨i1, i2⟩ := tTestL hF hG hOn ⟨hW.1, hW.2.1⟩ 1600 k1 g1 m1 C1 h3 (by omega) (fun x hx => Or.inl (q4 x hx)) q6 q3
    show (∀ e, (match spTestL tp F 1600 k1 g1 with | .inl e => (.inl e : spR) | .inr (k2, g2, K2) => .inr (k2, g2, K1 ++ K2)) = .inl e → _) ∧ ∀ k2 g2 K, (match spTestL tp F 1600 k1 g1 with | .inl e => (.inl e : spR) | .inr (k2, g2, K2) => .inr (k2, g2, K1 ++ K2)) = .inr (k2, g2, K) → _
    cases hl : spTestL tp F 1600 k1 g1 with
    | inl e0 =>
      refine ⟨fun e he => ?_, fun k2 g2 K he => (by cases he)⟩
      cases he
      exact tBd.tr q2 (i1 e0 hl)
    | inr y =>
      obtain ⟨k2', g2', K2⟩ := y
      refine ⟨fun e he => (by cases he), fun k2 g2 K he => ?_⟩
      cases he
      obtain ⟨h4, m', C', r1, r2, r3, r4, r5, r6⟩ := i2 k2' g2' K2 hl
      exact ⟨h4, m', C', r1, q2.tr r2, r3, r4, by rw [r5, q5]; simp only [List.append_assoc], r6⟩
/-- a fact -/
theorem tFactS {P : spF} {inner : Option spF} (hmd : md = 0 ∨ md = 1 ∨ md = 2) (hP : ∀ bs was, mRd o tp md bs was op P) (hGP : spGr tp P) (hin : inner = none ∧ op = 6 ∨ ∃ F, inner = some F ∧ op ≤ 5 ∧ tRd o tp md bs (op + 1) F ∧ spGr tp F) : tRd o tp md bs op (spFactS tp P inner) := by
  intro h k g W C hOn hs
  have hop : op ≤ 6 := by rcases hin with ⟨-, e⟩ | ⟨_, -, e, -⟩ <;> omega
  unfold spFactS
  cases c0 : spWd tp g k spWnot with
  | true =>
    rw [if_pos (show true = true from rfl)]
    obtain ⟨p1, p2⟩ := t_not hop hs c0
    rcases hin with ⟨rfl, e6⟩ | ⟨F, rfl, e5, hF, hG⟩
    · refine ⟨fun e he => ?_, fun k2 g2 K he => (by cases he)⟩
      cases he
      exact p1 e6
    obtain ⟨h1, a1, a2, a3⟩ := p2 e5
    obtain ⟨q1, q2⟩ := hF h1 _ _ _ _ (hOn.c (by omega)) a3
    rw [a1]
    dsimp only
    cases hr : F (spPk tp (k + 3)) ((k + 3 : Nat) : Int) with
    | inl e0 =>
      refine ⟨fun e he => ?_, fun k2 g2 K he => (by cases he)⟩
      cases he
      exact tBd.tr a2 (q1 e0 hr)
    | inr x =>
      obtain ⟨k1, g1, K1⟩ := x
      refine ⟨fun e he => (by cases he), fun k2 g2 K he => ?_⟩
      cases he
      obtain ⟨h2, b1, b2, b3⟩ := q2 k1 g1 K1 hr
      obtain ⟨h3, d1, d2, d3⟩ := k_nots1 (by omega) b3
      refine ⟨h3, ?_, a2.tr (b2.tr d2), by rw [List.append_assoc] at d3; exact d3⟩
      rw [b1]
      unfold tE
      rw [d1]
  | false =>
  rw [if_neg (show ¬ false = true by decide)]
  by_cases c1 : spTx tp k = 91
  · rw [if_pos c1]
    obtain ⟨p1, p2⟩ := t_square hop hs c1
    rcases hin with ⟨rfl, e6⟩ | ⟨F, rfl, e5, hF, hG⟩
    · refine ⟨fun e he => ?_, fun k2 g2 K he => (by cases he)⟩
      cases he
      exact p1 e6
    obtain ⟨h1, a1, a2, a3⟩ := p2 e5
    obtain ⟨q1, q2⟩ := tTest hF hG (W := 25 :: W) (hOn.c (by omega)) ⟨fun e => absurd (Option.some.inj e) (by decide), fun e => absurd (Option.some.inj e) (by decide), fun e => absurd (Option.some.inj e) (by decide)⟩ a3
    rw [a1]
    dsimp only
    cases hr : spTest tp F (spPk tp (k + 1)) g with
    | inl e0 =>
      refine ⟨fun e he => ?_, fun k2 g2 K he => (by cases he)⟩
      cases he
      exact tBd.tr a2 (q1 e0 hr)
    | inr x =>
      obtain ⟨k1, g1, K1⟩ := x
      obtain ⟨h2, m1, C1, b1, b2, b3, b4, b5, b6, b7⟩ := q2 k1 g1 K1 hr
      rw [b1]
      show (∀ e, (if spTx tp k1 = 93 then (.inr (spPk tp (k1 + 1), g1, K1) : spR) else .inl (1, k1)) = .inl e → _) ∧ ∀ k2 g2 K, (if spTx tp k1 = 93 then (.inr (spPk tp (k1 + 1), g1, K1) : spR) else .inl (1, k1)) = .inr (k2, g2, K) → _
      by_cases d : spTx tp k1 = 93
      · rw [if_pos d]
        refine ⟨fun e he => (by cases he), fun k2 g2 K he => ?_⟩
        cases he
        obtain ⟨h3, d1, d2, d3⟩ := t_close (by omega) b4 b3 d
        exact ⟨h3, d1, a2.tr (b2.tr d2), by rw [b5] at d3; exact d3⟩
      · rw [if_neg d]
        refine ⟨fun e he => ?_, fun k2 g2 K he => (by cases he)⟩
        cases he
        exact tBd.tr (a2.tr b2) ((t_end b3 b6 b7 (Or.inl d)).1 (List.mem_append_right _ List.mem_cons_self))
  rw [if_neg c1]
  obtain ⟨p1, p2⟩ := t_leaf hmd hP hGP hOn hs c0 c1
  cases c2 : spWd tp g k spWall with
  | true =>
    rw [if_pos (show true = true from rfl)]
    refine ⟨fun e he => (by cases he), fun k2 g2 K he => ?_⟩
    cases he
    exact p1 c2
  | false =>
    rw [if_neg (show ¬ false = true by decide)]
    exact p2 c2
theorem tFact (hmd : md = 0 ∨ md = 1 ∨ md = 2) : ∀ r op, op + r = 6 → tRd o tp md bs op (spFact tp md r) := by
  intro r
  induction r with
  | zero => intro op e; exact tFactS hmd (fun bs was => mPart hmd 0 op e) (spPart_gr 0) (Or.inl ⟨rfl, by omega⟩)
  | succ r ih => intro op e; exact tFactS hmd (fun bs was => mPart hmd (r + 1) op e) (spPart_gr (r + 1)) (Or.inr ⟨_, rfl, by omega, ih (op + 1) (by omega), spFact_gr r⟩)
theorem t_dropAll : ∀ (m C : List Int) (h : jH), MK h o tp md k g op bs m C → ∃ h', M_qTest_L110 h o = some h' ∧ MKg o h h' ∧ MK h' o tp md k g op bs [] (C ++ m) := by
  unfold M_qTest_L110
  intro m
  induction m with
  | nil =>
    intro C h hs
    refine ⟨h, jloop_r ?_, MKg.rf, by rw [List.append_nil]; exact hs⟩
    unfold M_qTest_B110
    rw [if_pos hs.1.2.2.2, hs.2.2.2.2.2.1.1.1, if_neg (show ¬ (0 : Int) < (([] : List Int).length : Int) by decide)]
    rfl
  | cons x m ih =>
    intro C h hs
    obtain ⟨h1, e1, e2, e3⟩ := k_drop (W := m) (w := x) hs
    obtain ⟨h', y1, y2, y3⟩ := ih (C ++ [x]) h1 e3
    refine ⟨h', (jloop_l (s' := h1) ?_).trans y1, e2.tr y2, by rw [List.append_assoc] at y3; exact y3⟩
    unfold M_qTest_B110
    rw [if_pos hs.1.2.2.2, hs.2.2.2.2.2.1.1.1, if_pos (by rw [List.length_cons]; omega), e1, Option.bind_some]
/-- the reference reads a whole test -/
theorem mTestW (hmd : md = 0 ∨ md = 1 ∨ md = 2) {h : jH} (hs : MK h o tp md k g 0 bs [] C) : (∀ e, spTest tp (spFact tp md 6) k g = .inl e → tBd o h (M_qTest h o) e) ∧ ∀ k2 g2 K, spTest tp (spFact tp md 6) k g = .inr (k2, g2, K) → ∃ h', M_qTest h o = some h' ∧ MKg o h h' ∧ MK h' o tp md k2 g2 0 bs [] (C ++ K) := by
  obtain ⟨p1, p2⟩ := tTest (tFact hmd 6 0 rfl) (spFact_gr 6) (W := []) (fun x hx => absurd hx List.not_mem_nil) ⟨fun e => (by cases e), fun e => (by cases e), fun e => (by cases e)⟩ hs
  refine ⟨fun e he => p1 e he, fun k2 g2 K he => ?_⟩
  obtain ⟨h2, m, C2, q1, q2, q3, q4, q5, q6, q7⟩ := p2 k2 g2 K he
  rw [List.append_nil] at q3
  have h25 : ¬ (25 : Int) ∈ m := fun e => by have := q4 25 e; omega
  obtain ⟨h3, a1, a2, a3⟩ := (t_end q3 q6 q7 (Or.inr h25)).2 h25
  obtain ⟨h4, b1, b2, b3⟩ := t_dropAll m C2 h3 a3
  refine ⟨h4, ?_, q2.tr (a2.k.tr b2), by rw [q5] at b3; exact b3⟩
  show tT o h = _
  rw [q1, a1]
  unfold M_qTest_L2
  refine jloop_x (X := some h4) ?_
  show M_qTest_B2 h3 o 0 = _
  unfold M_qTest_B2
  rw [if_pos (show (0 : Int) = 0 from rfl), b1]
/-- the reference reads a whole formula -/
theorem mSumsW (hmd : md = 0 ∨ md = 1 ∨ md = 2) {h : jH} (hs : MK h o tp md k g 0 bs [] C) : (∀ e, spSms tp (spPart tp md 6) k g = .inl e → mBd o h (M_qSums h o) e) ∧ ∀ k2 g2 K, spSms tp (spPart tp md 6) k g = .inr (k2, g2, K) → ∃ h', M_qSums h o = some h' ∧ MKg o h h' ∧ MK h' o tp md k2 g2 0 bs [] (C ++ K) := mSums hmd (fun bs was => mPart hmd 6 0 rfl) (spPart_gr 6) ⟨fun e => (by cases e), fun e => (by cases e), fun e => (by cases e), fun e => (by cases e)⟩ hs
end MTF
