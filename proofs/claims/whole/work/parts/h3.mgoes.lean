/-! the reference reads sums: what goes on behind a part -/
noncomputable def mFG (o : Nat) (was : Int) (h : jH) : Option jH := Option.bind (M_qGoesOn h o) (fun b5 => if b5.1 = 0 then M_qSums_L15 b5.2 o was 0 else M_qSums_L15 b5.2 o was 1)
noncomputable def mFR (o : Nat) (was : Int) (h : jH) : Option jH := if h o 5 = 0 then mFG o was h else M_qSums_L15 h o was 0
noncomputable def mFT (o : Nat) (was : Int) (h : jH) : Option jH := Option.bind (M_qPartTold_L2 h o 1) (mFR o was)
noncomputable def mFE (o : Nat) (was : Int) (h : jH) : Option jH := Option.bind (M_qEndsPart h o) (mFG o was)
theorem jloop_b {S O : Type} {f : S → Option (S ⊕ O)} {s : S} {X : Option S} (h : f s = Option.bind X (fun b => some (.inl b))) : jloop f s = Option.bind X (jloop f) := by
  rw [jloop_eq, h]
  cases X <;> rfl
/-- all is at its end, badly -/
def M99 (o : Nat) (h : jH) : Prop := ∃ n : Nat, h o 99 = (n : Int) ∧ n ≤ 1601
def mBd (o : Nat) (h : jH) (X : Option jH) (e : Int × Nat) : Prop := ∃ h', X = some h' ∧ MKg o h h' ∧ MBad o h' e ∧ M99 o h'
theorem M99.fw {o : Nat} {h h1 : jH} (a : M99 o h) (f : MFw o h h1) : M99 o h1 := by
  obtain ⟨n, a1, a2⟩ := a
  exact ⟨n, by rw [f.2 99 (by decide) (by decide) (by decide) (by decide) (by decide)]; exact a1, a2⟩
theorem M99.eq {o : Nat} {h h1 : jH} (a : M99 o h) (f : h1 o 99 = h o 99) : M99 o h1 := by
  obtain ⟨n, a1, a2⟩ := a
  exact ⟨n, f.trans a1, a2⟩
theorem MK.c99 {h : jH} {o : Nat} {tp : List Int} {md k : Nat} {g : Int} {op bs : Nat} {W C : List Int} (s : MK h o tp md k g op bs W C) : M99 o h := ⟨C.length, s.2.2.2.2.2.1.2.1, by have := s.1.le; have := s.2.2.2.2.2.2; omega⟩
section MGO
variable {o : Nat} {tp : List Int} {md k op bs : Nat} {g was : Int} {W C : List Int}
theorem k_badL {h : jH} {v : Int} (hb : h o 5 ≠ 0) : M_qSums_L15 h o was v = some (jup h o 103 was) := by
  have h53 : M_qSums_L53 h o was = some (jup h o 103 was) := by
    unfold M_qSums_L53
    refine jloop_r ?_
    unfold M_qSums_B53
    rw [if_neg hb]
    rfl
  unfold M_qSums_L15
  refine jloop_x (X := some (jup h o 103 was)) ?_
  show M_qSums_B15 h o was v = _
  unfold M_qSums_B15
  rw [h53, if_neg hb]
  split <;> rfl
theorem mBd.of {h h1 : jH} {v : Int} {e : Int × Nat} (hf : MKg o h h1) (hb : MBad o h1 e) (hn : M99 o h1) : mBd o h (M_qSums_L15 h1 o was v) e := by
  have h5 : h1 o 5 ≠ 0 := by rw [hb.1]; exact hb.2.2
  refine ⟨_, k_badL h5, hf.tr ⟨fun z z1 _ _ => jup_ne z1, fun f _ _ _ _ _ _ _ _ f9 => ju_ne f9⟩, ⟨by rw [ju_ne (by decide)]; exact hb.1, by rw [ju_ne (by decide)]; exact hb.2.1, hb.2.2⟩, hn.eq (ju_ne (by decide))⟩
theorem k_loop {h : jH} (h5 : h o 5 = 0) : M_qSums_L15 h o was 1 = mFT o was h := by
  unfold M_qSums_L15 mFT
  rw [jloop_eq]
  have hB : M_qSums_B15 h o was 1 = Option.bind (M_qPartTold_L2 h o 1) (fun b3 => if (b3 o 5) = 0 then Option.bind (M_qGoesOn b3 o) (fun b5 => if b5.1 = 0 then some (.inl (0, b5.2)) else some (.inl (1, b5.2))) else some (.inl (0, b3))) := by
    unfold M_qSums_B15 M_qSums_p48 M_qPartTold
    rw [if_neg (by decide), if_pos h5]
  rw [hB]
  cases e : M_qPartTold_L2 h o 1 with
  | none => rfl
  | some b3 =>
    rw [Option.bind_some, Option.bind_some]
    unfold mFR
    by_cases c : b3 o 5 = 0
    · rw [if_pos c, if_pos c]
      unfold mFG
      cases e2 : M_qGoesOn b3 o with
      | none => rfl
      | some b5 =>
        rw [Option.bind_some, Option.bind_some]
        by_cases d : b5.1 = 0
        · rw [if_pos d, if_pos d]; rfl
        · rw [if_neg d, if_neg d]; rfl
    · rw [if_neg c, if_neg c]; rfl
/-- behind the signs that join -/
theorem k_122 {h : jH} (hs : MK h o tp md k g op bs W C) (hc : spTx tp k ≠ 42 ∧ spTx tp k ≠ 47 ∧ spTx tp k ≠ 43 ∧ spTx tp k ≠ 45) : ∃ h1, M_qGoesOn_p122 h o = Option.bind (M_qBracket h1 o) (fun b25 => (if b25 = 21 then M_qGoesOn_p326 h1 o else Option.bind (M_qBracket h1 o) (fun b27 => (if b27 = 22 then M_qGoesOn_p326 h1 o else Option.bind (M_qBracket h1 o) (fun b29 => (if b29 = (-1) then some (0, h1) else (if (h1 o 5) = 0 then Option.bind (M_fail h1 o 1 (h1 o 2)) (fun b32 => some (0, b32)) else some (0, h1)))))))) ∧ MFw o h h1 ∧ MK h1 o tp md k g op bs W C ∧ h1 o 2 = (k : Int) := by
  obtain ⟨h1, a1, a2, a3, a4⟩ := m_takesSign (c := 42) (by decide) hs.1
  rw [if_neg hc.1] at a1 a3 a4
  have s1 := hs.fr a2 a3 (Nat.le_refl _)
  obtain ⟨h2, b1, b2, b3, b4⟩ := m_takesSign (c := 47) (by decide) s1.1
  rw [if_neg hc.2.1] at b1 b3 b4
  have s2 := s1.fr b2 b3 (Nat.le_refl _)
  obtain ⟨h3, c1, c2, c3, c4⟩ := m_takesSign (c := 43) (by decide) s2.1
  rw [if_neg hc.2.2.1] at c1 c3 c4
  have s3 := s2.fr c2 c3 (Nat.le_refl _)
  obtain ⟨h4, d1, d2, d3, d4⟩ := m_takesSign (c := 45) (by decide) s3.1
  rw [if_neg hc.2.2.2] at d1 d3 d4
  have s4 := s3.fr d2 d3 (Nat.le_refl _)
  refine ⟨h4, ?_, a2.tr (b2.tr (c2.tr d2)), s4, d4⟩
  unfold M_qGoesOn_p122
  rw [a1, Option.bind_some]
  dsimp only
  rw [if_pos (show (0 : Int) = 0 from rfl), b1, Option.bind_some]
  dsimp only
  rw [if_pos (show (0 : Int) = 0 from rfl), c1, Option.bind_some]
  dsimp only
  rw [if_pos (show (0 : Int) = 0 from rfl), d1, Option.bind_some]
  dsimp only
  rw [if_pos (show (0 : Int) = 0 from rfl)]
/-- the last bracket doesn't close here -/
theorem k_stay {h : jH} {b : Int} {p : List Int} (hp : ∀ x ∈ p, spIsB x = false) (hb : spIsB b = true) (hbs : bs ≤ W.length) (hs : MK h o tp md k g op bs (p ++ b :: W) C) (hc : spTx tp k ≠ 41 ∨ b = 21 ∨ b = 22) : ∃ h1, M_qGoesOn h o = M_qGoesOn_p122 h1 o ∧ MFw o h h1 ∧ MK h1 o tp md k g op bs (p ++ b :: W) C := by
  obtain ⟨h1, a1, a2, a3, a4, -⟩ := m_look hs.1
  have s1 := hs.fr a2 a4 (Nat.le_refl _)
  refine ⟨h1, ?_, a2, s1⟩
  unfold M_qGoesOn M_qGoesOn_L0
  refine jloop_x ?_
  unfold M_qGoesOn_B0
  rw [if_pos hs.1.2.2.2, a1, Option.bind_some]
  dsimp only
  by_cases c : spTx tp k = 41
  · have hb2 : b = 21 ∨ b = 22 := hc.resolve_left (fun h => h c)
    rw [if_pos c, k_brk hp hb hbs s1, Option.bind_some, if_neg (by omega), Option.bind_some, if_neg (by omega), Option.bind_some, if_neg (by omega)]
  · rw [if_neg c]
theorem k_stay0 {h : jH} {p : List Int} (hp : ∀ x ∈ p, spIsB x = false) (hbs : W.length = bs) (hs : MK h o tp md k g op bs (p ++ W) C) : ∃ h1, M_qGoesOn h o = M_qGoesOn_p122 h1 o ∧ MFw o h h1 ∧ MK h1 o tp md k g op bs (p ++ W) C := by
  obtain ⟨h1, a1, a2, a3, a4, -⟩ := m_look hs.1
  have s1 := hs.fr a2 a4 (Nat.le_refl _)
  refine ⟨h1, ?_, a2, s1⟩
  unfold M_qGoesOn M_qGoesOn_L0
  refine jloop_x ?_
  unfold M_qGoesOn_B0
  rw [if_pos hs.1.2.2.2, a1, Option.bind_some]
  dsimp only
  by_cases c : spTx tp k = 41
  · rw [if_pos c, k_brkNo hp hbs s1, Option.bind_some, if_neg (by decide), Option.bind_some, if_neg (by decide), Option.bind_some, if_neg (by decide)]
  · rw [if_neg c]
/-- stuck in a bracket -/
theorem k_stuck {h : jH} {b : Int} {p : List Int} (hp : ∀ x ∈ p, spIsB x = false) (hb : spIsB b = true) (hb2 : b ≠ 21 ∧ b ≠ 22) (hbs : bs ≤ W.length) (hs : MK h o tp md k g op bs (p ++ b :: W) C) (hc : spTx tp k ≠ 42 ∧ spTx tp k ≠ 47 ∧ spTx tp k ≠ 43 ∧ spTx tp k ≠ 45) (h41 : spTx tp k ≠ 41) : mBd o h (mFG o was h) (1, k) := by
  obtain ⟨h1, e1, e2, e3⟩ := k_stay hp hb hbs hs (Or.inl h41)
  obtain ⟨h2, f1, f2, f3, f4⟩ := k_122 e3 hc
  have hbr := k_brk hp hb hbs f3
  have hb1 : b ≠ -1 := by
    intro e
    rw [e] at hb
    exact absurd hb (by decide)
  obtain ⟨h3, x1, x2, x3, -⟩ := m_failAt (o := o) (h := h2) (e := (1, k)) f3.1.2.2.2 (show ¬ (1 : Int) = 0 by decide)
  have hG : mFG o was h = M_qSums_L15 h3 o was 0 := by
    unfold mFG
    rw [e1, f1, hbr, Option.bind_some, if_neg hb2.1, Option.bind_some, if_neg hb2.2, Option.bind_some, if_neg hb1, if_pos f3.1.2.2.2, f4, show M_fail h2 o 1 (k : Int) = _ from x1, Option.bind_some, Option.bind_some]
    dsimp only
    rw [if_pos (show (0 : Int) = 0 from rfl)]
  rw [hG]
  exact mBd.of (e2.k.tr (f2.k.tr x2.k)) x3 (f3.c99.fw x2)
/-- a comma behind the first of a pair -/
theorem k_comma {h : jH} {b : Int} {p : List Int} (hp : ∀ x ∈ p, spIsB x = false) (hb : b = 21 ∨ b = 22) (hbs : bs ≤ W.length) (hs : MK h o tp md k g op bs (p ++ b :: W) C) (hc : spTx tp k ≠ 42 ∧ spTx tp k ≠ 47 ∧ spTx tp k ≠ 43 ∧ spTx tp k ≠ 45) : (spTx tp k ≠ 44 → mBd o h (mFG o was h) (1, k)) ∧ (spTx tp k = 44 → ∃ h', mFG o was h = mFT o was h' ∧ MKg o h h' ∧ MK h' o tp md (spPk tp (k + 1)) g op bs ((b + 2) :: W) (C ++ p)) := by
  have hbB : spIsB b = true := by rcases hb with e | e <;> rw [e] <;> decide
  obtain ⟨h1, e1, e2, e3⟩ := k_stay hp hbB hbs hs (Or.inr hb)
  obtain ⟨h2, f1, f2, f3, f4⟩ := k_122 e3 hc
  have hbr := k_brk hp hbB hbs f3
  have h326 : M_qGoesOn_p122 h1 o = M_qGoesOn_p326 h2 o := by
    rw [f1, hbr, Option.bind_some]
    by_cases c : b = 21
    · rw [if_pos c]
    · rw [if_neg c, Option.bind_some, if_pos (hb.resolve_left c)]
  obtain ⟨h3, x1, x2, x3, x4⟩ := m_asksSign (c := 44) (by decide) f3.1
  have hl := hs.1.le
  have hpk := (spPk_in (tp := tp) (k + 1)).1
  refine ⟨fun c => ?_, fun c => ?_⟩
  · have hbd := x4 c
    have hG : mFG o was h = M_qSums_L15 h3 o was 0 := by
      unfold mFG
      rw [e1, h326]
      unfold M_qGoesOn_p326
      rw [x1, Option.bind_some, if_neg (show ¬ h3 o 5 = 0 by rw [hbd.1]; show ¬ (1 : Int) = 0; decide), Option.bind_some]
      dsimp only
      rw [if_pos (show (0 : Int) = 0 from rfl)]
    rw [hG]
    exact mBd.of (e2.k.tr (f2.k.tr x2.k)) hbd (f3.c99.fw x2)
  · have s3 := f3.fr x2 (x3 c).1 (by omega)
    obtain ⟨h4, y1, y2, y3⟩ := k_dropsTo hbB hbs p C h3 hp s3
    have hbd := y3.2.2.2.2.2.2
    rw [List.length_cons] at hbd
    have hl4 := y3.1.le
    obtain ⟨-, -, p3, p4⟩ := k_pop y3
    obtain ⟨h5, hh5⟩ : ∃ h5 : jH, h5 = jup h4 (o + 66) W.length (b + 2) := ⟨_, rfl⟩
    have go : ∀ z, z ≠ o + 66 → h5 z = h4 z := fun z hz => by rw [hh5, jup_ne hz]
    have s5 : MK h5 o tp md (spPk tp (k + 1)) g op bs ((b + 2) :: W) (C ++ p) := by
      obtain ⟨s1, s2, s3, s4, s5, ⟨⟨s6, s7⟩, s8, s9⟩, s10⟩ := y3
      refine ⟨s1.fd (go _ (by omega)) (fun f _ => by rw [go o (by omega)]), s2.fr (fun z _ _ z3 => go z z3), by rw [go o (by omega)]; exact s3, by rw [go o (by omega)]; exact s4, by rw [go o (by omega)]; exact s5, ⟨⟨by rw [go o (by omega)]; exact s6, fun i v hv => ?_⟩, by rw [go o (by omega)]; exact s8, fun i v hv => by rw [go _ (by omega)]; exact s9 i v hv⟩, s10⟩
      cases i with
      | zero =>
        rw [List.length_cons, hh5, ju_if, if_pos (by omega)]
        exact Option.some.inj hv
      | succ i =>
        have hi' : W[i]? = some v := hv
        have hil := (List.getElem?_eq_some_iff.mp hi').1
        have := s7 (i + 1) v hi'
        rw [List.length_cons] at this ⊢
        rw [hh5, ju_ne (by omega)]
        exact this
    refine ⟨h5, ?_, e2.k.tr (f2.k.tr (x2.k.tr (y2.tr ⟨fun z _ _ z3 => go z z3, fun f _ _ _ _ _ _ _ _ _ => by rw [go o (by omega)]⟩))), s5⟩
    unfold mFG
    rw [e1, h326]
    unfold M_qGoesOn_p326
    rw [x1, Option.bind_some, if_pos s3.1.2.2.2, y1, Option.bind_some, p4, pw (by omega) (by omega), if_pos (by omega), if_pos (by omega), show ((W.length : Int) + 1 - 1).toNat = W.length by omega, p3, pw (x := b + 2) (by omega) (by omega), ← hh5, Option.bind_some]
    dsimp only
    rw [if_neg (show ¬ (1 : Int) = 0 by decide)]
    exact k_loop s5.1.2.2.2
/-- a bracket closes -/
theorem k_close {h : jH} {b : Int} {p : List Int} (hp : ∀ x ∈ p, spIsB x = false) (hb : b = 20 ∨ b = 23 ∨ b = 24) (hbs : bs ≤ W.length) (hop : op ≤ 10) (hs : MK h o tp md k g (op + 1) bs (p ++ b :: W) C) (hc : spTx tp k = 41) : ∃ h', mFG o was h = mFE o was h' ∧ MKg o h h' ∧ MK h' o tp md (spPk tp (k + 1)) g op bs W (C ++ p ++ (if b = 20 then [] else if b = 23 then [5] else [6])) := by
  have hbB : spIsB b = true := by rcases hb with e | e | e <;> rw [e] <;> decide
  obtain ⟨h1, a1, a2, a3, a4, -⟩ := m_look hs.1
  have s1 := hs.fr a2 a4 (Nat.le_refl _)
  have hl := hs.1.le
  have hk : k < tp.length := spByt_neg hc (by decide)
  have hpk := (spPk_in (tp := tp) (k + 1)).1
  obtain ⟨h2, hh2⟩ : ∃ h2 : jH, h2 = jup h1 o 2 (wr (h1 o 2 + 1)) := ⟨_, rfl⟩
  have f2 : MFw o h1 h2 := ⟨fun z hz => by rw [hh2, jup_ne hz], fun f f2 _ _ _ _ => by rw [hh2, ju_ne f2]⟩
  have s2 : MK h2 o tp md (spPk tp (k + 1)) g (op + 1) bs (p ++ b :: W) C := s1.fr f2 (s1.1.mv f2 (a := k + 1) (by rw [hh2, ju_eq, a3, pw (by omega) (by omega)]; rfl) hk (by rw [hh2, ju_ne (by decide)]; exact s1.1.2.2.1) (by rw [hh2, ju_ne (by decide)]; exact s1.1.2.2.2) (by rw [hh2, ju_ne (by decide)])) (by omega)
  obtain ⟨h3, y1, y2, y3⟩ := k_dropsTo hbB hbs p C h2 hp s2
  have hbd := y3.2.2.2.2.2.2
  rw [List.length_cons] at hbd
  have hl3 := y3.1.le
  obtain ⟨p1, p2, p3, p4⟩ := k_pop y3
  obtain ⟨h4, hh4⟩ : ∃ h4 : jH, h4 = jup (jup h3 o 101 (W.length : Int)) o 102 (op : Int) := ⟨_, rfl⟩
  have f4 : MKg o h3 h4 := ⟨fun z z1 _ _ => by rw [hh4, jup_ne z1, jup_ne z1], fun f _ _ _ _ _ _ f7 f8 _ => by rw [hh4, ju_ne f8, ju_ne f7]⟩
  have s4 : MK h4 o tp md (spPk tp (k + 1)) g op bs W (C ++ p) := by
    obtain ⟨q1, q2, q3, q4, q5, ⟨⟨q6, q7⟩, q8, q9⟩, q10⟩ := p2
    have go : ∀ z, z ≠ o → h4 z = (jup h3 o 101 (W.length : Int)) z := fun z hz => by rw [hh4, jup_ne hz]
    have gf : ∀ f, f ≠ 102 → h4 o f = (jup h3 o 101 (W.length : Int)) o f := fun f hf => by rw [hh4, ju_ne hf]
    exact ⟨q1.fd (go _ (by omega)) (fun f hf => gf f (by omega)), q2.fr (fun z z1 _ _ => go z z1), by rw [gf 44 (by decide)]; exact q3, by rw [hh4, ju_eq], by rw [gf 103 (by decide)]; exact q5, ⟨⟨by rw [gf 101 (by decide)]; exact q6, fun i v hv => by rw [go _ (by omega)]; exact q7 i v hv⟩, by rw [gf 99 (by decide)]; exact q8, fun i v hv => by rw [go _ (by omega)]; exact q9 i v hv⟩, q10⟩
  have hcell : h4 (o + 66) W.length = b := by rw [hh4, jup_ne (by omega), jup_ne (by omega)]; exact p3
  have h4101 : h4 o 101 = (W.length : Int) := s4.2.2.2.2.2.1.1.1
  -- the code of a pair
  have hcode : ∃ h5, M_qGoesOn_p43 h1 o = Option.bind (M_qEndsPart h5 o) (fun b15 => some (.inl b15)) ∧ MKg o h4 h5 ∧ MK h5 o tp md (spPk tp (k + 1)) g op bs W (C ++ p ++ (if b = 20 then [] else if b = 23 then [5] else [6])) := by
    have e43 : M_qGoesOn_p43 h1 o = (if (0 : Int) ≤ (h4 o 101) ∧ ((h4 o 101) : Int).toNat < 1700 then (if (h4 (o + 66) ((h4 o 101) : Int).toNat) = 20 then M_qGoesOn_p115 h4 o else (if (0 : Int) ≤ (h4 o 101) ∧ ((h4 o 101) : Int).toNat < 1700 then (if (h4 (o + 66) ((h4 o 101) : Int).toNat) = 23 then M_qGoesOn_p112 h4 o o 5 else M_qGoesOn_p112 h4 o o 6) else none)) else none) := by
      unfold M_qGoesOn_p43
      rw [← hh2, y1, Option.bind_some, p4, pw (by omega) (by omega), show (W.length : Int) + 1 - 1 = (W.length : Int) by omega, ju_ne (show 102 ≠ 101 by decide), y3.2.2.2.1, pw (by omega) (by omega), show ((op + 1 : Nat) : Int) - 1 = (op : Int) by omega, ← hh4]
    rw [e43, h4101, if_pos (by omega), Int.toNat_natCast, hcell]
    rcases hb with e | e | e
    · rw [if_pos e, if_pos e]
      exact ⟨h4, rfl, MKg.rf, by rw [List.append_nil]; exact s4⟩
    · obtain ⟨h5, z1, z2, z3⟩ := k_code (v := 5) s4 (by omega)
      rw [if_neg (by omega), if_pos (by omega), if_pos e, if_neg (show ¬ b = 20 by omega), if_pos e]
      unfold M_qGoesOn_p112
      rw [z1, Option.bind_some]
      exact ⟨h5, rfl, z2, z3⟩
    · obtain ⟨h5, z1, z2, z3⟩ := k_code (v := 6) s4 (by omega)
      rw [if_neg (by omega), if_pos (by omega), if_neg (by omega), if_neg (show ¬ b = 20 by omega), if_neg (show ¬ b = 23 by omega)]
      unfold M_qGoesOn_p112
      rw [z1, Option.bind_some]
      exact ⟨h5, rfl, z2, z3⟩
  obtain ⟨h5, z1, z2, z3⟩ := hcode
  refine ⟨h5, ?_, a2.k.tr (f2.k.tr (y2.tr (f4.tr z2))), z3⟩
  have hB : M_qGoesOn_B0 h o = Option.bind (M_qEndsPart h5 o) (fun b15 => some (.inl b15)) := by
    unfold M_qGoesOn_B0
    rw [if_pos hs.1.2.2.2, a1, Option.bind_some]
    dsimp only
    rw [if_pos hc, k_brk hp hbB hbs s1, Option.bind_some]
    rcases hb with e | e | e
    · rw [if_pos e]; exact z1
    · rw [if_neg (by omega), Option.bind_some, if_pos e]; exact z1
    · rw [if_neg (by omega), Option.bind_some, if_neg (by omega), Option.bind_some, if_pos e]; exact z1
  unfold mFG mFE M_qGoesOn M_qGoesOn_L0
  rw [jloop_b (f := fun s : jH => M_qGoesOn_B0 s o) (s := h) hB]
  cases M_qEndsPart h5 o with
  | none => rfl
  | some x => rfl
/-- the signs that bind as closely are dropped -/
theorem k_162 {v : Int} (hW : W.head? ≠ some 3 ∧ W.head? ≠ some 4) : ∀ (m C : List Int) (h : jH), (∀ x ∈ m, x = 3 ∨ x = 4) → MK h o tp md k g op bs (m ++ W) C → (m ++ W).length + C.length + 1 ≤ k → ∃ h', M_qGoesOn_L162 h o v = some (1, h') ∧ MKg o h h' ∧ MK h' o tp md k g op bs (v :: W) (C ++ m) := by
  unfold M_qGoesOn_L162
  intro m
  induction m with
  | nil =>
    intro C h _ hs hb
    rw [List.nil_append] at hs hb
    have hl := hs.1.le
    have h101 := hs.2.2.2.2.2.1.1.1
    have hp := k_push (v := v) (by omega) hs.2.2.2.2.2.1
    obtain ⟨h1, hh1⟩ : ∃ h1 : jH, h1 = jup (jup h (o + 66) W.length v) o 101 ((W.length : Int) + 1) := ⟨_, rfl⟩
    rw [← hh1] at hp
    have go : ∀ z, z ≠ o → z ≠ o + 66 → h1 z = h z := fun z z1 z2 => by rw [hh1, jup_ne z1, jup_ne z2]
    have gf : ∀ f, f ≠ 101 → h1 o f = h o f := fun f hf => by rw [hh1, ju_ne hf, jup_ne (by omega)]
    refine ⟨h1, jloop_r ?_, ⟨fun z z1 _ z3 => go z z1 z3, fun f _ _ _ _ _ _ f7 _ _ => gf f f7⟩, hs.1.fd (go _ (by omega) (by omega)) (fun f hf => gf f (by omega)), hs.2.1.fr (fun z z1 _ z3 => go z z1 z3), by rw [gf 44 (by decide)]; exact hs.2.2.1, by rw [gf 102 (by decide)]; exact hs.2.2.2.1, by rw [gf 103 (by decide)]; exact hs.2.2.2.2.1, by rw [List.append_nil]; exact hp, by rw [List.append_nil, List.length_cons]; omega⟩
    unfold M_qGoesOn_B162
    rw [k_isOn hs, Option.bind_some, if_neg hW.1, if_pos rfl, k_isOn hs, Option.bind_some, if_neg hW.2, if_pos rfl, h101, if_pos (by omega), Int.toNat_natCast, jup_ne (by omega), h101, pw (by omega) (by omega), ← hh1]
    rfl
  | cons x m ih =>
    intro C h hm hs hb
    obtain ⟨h1, e1, e2, e3⟩ := k_drop (W := m ++ W) (w := x) hs
    rw [List.cons_append, List.length_cons] at hb
    obtain ⟨h', y1, y2, y3⟩ := ih (C ++ [x]) h1 (fun y hy => hm y (List.mem_cons_of_mem _ hy)) e3 (by rw [List.length_append (as := C)]; show _ + (C.length + 1) + 1 ≤ k; omega)
    refine ⟨h', (jloop_l (s' := h1) ?_).trans y1, e2.tr y2, by rw [List.append_assoc] at y3; exact y3⟩
    have hx := hm x List.mem_cons_self
    unfold M_qGoesOn_B162 M_qGoesOn_p178
    rw [k_isOn hs, k_isOn hs, e1, Option.bind_some]
    rcases hx with e | e
    · rw [if_pos (show (x :: m ++ W).head? = some 3 by rw [e]; rfl), if_neg (show ¬ (1 : Int) = 0 by decide)]; rfl
    · rw [if_neg (show ¬ (x :: m ++ W).head? = some 3 by rw [e]; show ¬ some (4 : Int) = some 3; decide), if_pos (show (0 : Int) = 0 from rfl), Option.bind_some, if_pos (show (x :: m ++ W).head? = some 4 by rw [e]; rfl), if_neg (show ¬ (1 : Int) = 0 by decide)]; rfl
theorem k_247 {v : Int} (hW : W.head? ≠ some 3 ∧ W.head? ≠ some 4 ∧ W.head? ≠ some 1 ∧ W.head? ≠ some 2) : ∀ (m C : List Int) (h : jH), (∀ x ∈ m, x = 3 ∨ x = 4 ∨ x = 1 ∨ x = 2) → MK h o tp md k g op bs (m ++ W) C → (m ++ W).length + C.length + 1 ≤ k → ∃ h', M_qGoesOn_L247 h o v = some (1, h') ∧ MKg o h h' ∧ MK h' o tp md k g op bs (v :: W) (C ++ m) := by
  unfold M_qGoesOn_L247
  intro m
  induction m with
  | nil =>
    intro C h _ hs hb
    rw [List.nil_append] at hs hb
    have hl := hs.1.le
    have h101 := hs.2.2.2.2.2.1.1.1
    have hp := k_push (v := v) (by omega) hs.2.2.2.2.2.1
    obtain ⟨h1, hh1⟩ : ∃ h1 : jH, h1 = jup (jup h (o + 66) W.length v) o 101 ((W.length : Int) + 1) := ⟨_, rfl⟩
    rw [← hh1] at hp
    have go : ∀ z, z ≠ o → z ≠ o + 66 → h1 z = h z := fun z z1 z2 => by rw [hh1, jup_ne z1, jup_ne z2]
    have gf : ∀ f, f ≠ 101 → h1 o f = h o f := fun f hf => by rw [hh1, ju_ne hf, jup_ne (by omega)]
    refine ⟨h1, jloop_r ?_, ⟨fun z z1 _ z3 => go z z1 z3, fun f _ _ _ _ _ _ f7 _ _ => gf f f7⟩, hs.1.fd (go _ (by omega) (by omega)) (fun f hf => gf f (by omega)), hs.2.1.fr (fun z z1 _ z3 => go z z1 z3), by rw [gf 44 (by decide)]; exact hs.2.2.1, by rw [gf 102 (by decide)]; exact hs.2.2.2.1, by rw [gf 103 (by decide)]; exact hs.2.2.2.2.1, by rw [List.append_nil]; exact hp, by rw [List.append_nil, List.length_cons]; omega⟩
    unfold M_qGoesOn_B247
    rw [k_isOn hs, Option.bind_some, if_neg hW.1, if_pos rfl, k_isOn hs, Option.bind_some, if_neg hW.2.1, if_pos rfl, k_isOn hs, Option.bind_some, if_neg hW.2.2.1, if_pos rfl, k_isOn hs, Option.bind_some, if_neg hW.2.2.2, if_pos rfl, h101, if_pos (by omega), Int.toNat_natCast, jup_ne (by omega), h101, pw (by omega) (by omega), ← hh1]
    rfl
  | cons x m ih =>
    intro C h hm hs hb
    obtain ⟨h1, e1, e2, e3⟩ := k_drop (W := m ++ W) (w := x) hs
    rw [List.cons_append, List.length_cons] at hb
    obtain ⟨h', y1, y2, y3⟩ := ih (C ++ [x]) h1 (fun y hy => hm y (List.mem_cons_of_mem _ hy)) e3 (by rw [List.length_append (as := C)]; show _ + (C.length + 1) + 1 ≤ k; omega)
    refine ⟨h', (jloop_l (s' := h1) ?_).trans y1, e2.tr y2, by rw [List.append_assoc] at y3; exact y3⟩
    have hx := hm x List.mem_cons_self
    have hne : ∀ c : Int, x ≠ c → ¬ (x :: m ++ W).head? = some c := fun c hc h => hc (Option.some.inj h)
    unfold M_qGoesOn_B247 M_qGoesOn_p279
    rw [k_isOn hs, k_isOn hs, k_isOn hs, k_isOn hs, e1, Option.bind_some]
    rcases hx with e | e | e | e
    · rw [if_pos (show (x :: m ++ W).head? = some 3 by rw [e]; rfl), if_neg (show ¬ (1 : Int) = 0 by decide)]; rfl
    · rw [if_neg (hne 3 (by omega)), if_pos (show (0 : Int) = 0 from rfl), Option.bind_some, if_pos (show (x :: m ++ W).head? = some 4 by rw [e]; rfl), if_neg (show ¬ (1 : Int) = 0 by decide)]; rfl
    · rw [if_neg (hne 3 (by omega)), if_pos (show (0 : Int) = 0 from rfl), Option.bind_some, if_neg (hne 4 (by omega)), if_pos (show (0 : Int) = 0 from rfl), Option.bind_some, if_pos (show (x :: m ++ W).head? = some 1 by rw [e]; rfl), if_neg (show ¬ (1 : Int) = 0 by decide)]; rfl
    · rw [if_neg (hne 3 (by omega)), if_pos (show (0 : Int) = 0 from rfl), Option.bind_some, if_neg (hne 4 (by omega)), if_pos (show (0 : Int) = 0 from rfl), Option.bind_some, if_neg (hne 1 (by omega)), if_pos (show (0 : Int) = 0 from rfl), Option.bind_some, if_pos (show (x :: m ++ W).head? = some 2 by rw [e]; rfl), if_neg (show ¬ (1 : Int) = 0 by decide)]; rfl
end MGO
