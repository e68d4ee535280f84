/-! the reference reads a part: words, numbers -/
section MPT2
variable {o : Nat} {tp : List Int} {md k op bs : Nat} {g was : Int} {W C : List Int}
theorem pt_here (hmd : md = 0 ∨ md = 1 ∨ md = 2) {h : jH} (hs : MK h o tp md k g op bs W C) (hc : spTx tp k ≠ 40) : ∃ h3, MFw o h h3 ∧ MK h3 o tp md k g op bs W C ∧ h3 o 2 = (k : Int) ∧ M_qPartTold_B2 h o 1 = (if (if spWd tp g k spWmin = true then (1 : Int) else 0) = 0 then Option.bind (M_isHere h3 o (o + 54) 3) (fun b9 => (if b9.1 = 0 then (if (if 9 ≤ spWq tp g k ∧ spWq tp g k < 11 ∧ spAld md (spWq tp g k) = true then spWq tp g k else -1) = (-1) then some (.inl (0, b9.2)) else Option.bind (M_qOpens b9.2 o (wr ((wr (60 + (if 9 ≤ spWq tp g k ∧ spWq tp g k < 11 ∧ spAld md (spWq tp g k) = true then spWq tp g k else -1))) - 9)) (b9.2 o 2)) (fun b12 => Option.bind (M_qAsksWord b12 o (if 9 ≤ spWq tp g k ∧ spWq tp g k < 11 ∧ spAld md (spWq tp g k) = true then spWq tp g k else -1)) (fun b13 => some (.inl (1, b13))))) else M_qPartTold_p78 b9.2 o 1)) else M_qPartTold_p78 h3 o 1) := by
  obtain ⟨h2, a1, a2, a3, a4⟩ := pt_pre hmd hs
  obtain ⟨h3, b1, b2, b3, b4⟩ := m_isHere (r := o + 53) (n := 3) (w := spWmin) (by omega) rfl (by decide) a2.2.1.1.2.2.2.2.2.1 a2.1
  rw [if_neg hc, b1, Option.bind_some] at a4
  exact ⟨h3, a1.tr b2, a2.fr b2 b3 (Nat.le_refl _), b4, a4⟩
theorem pt_min (hmd : md = 0 ∨ md = 1 ∨ md = 2) {h : jH} (hs : MK h o tp md k g op bs W C) (hc : spTx tp k ≠ 40) (hm : spWd tp g k spWmin = true) : ∃ h0, MKg o h h0 ∧ MK h0 o tp md (spPk tp (k + 3)) ((k + 3 : Nat) : Int) op bs W C ∧ M_qPartTold_B2 h o 1 = M_qPartTold_p101 h0 o 1 1 := by
  obtain ⟨h3, a1, a2, a3, a4⟩ := pt_here hmd hs hc
  obtain ⟨h4, b1, b2, b3, b4⟩ := m_takes (r := o + 53) (n := 3) (w := spWmin) (by omega) rfl (by decide) a2.2.1.1.2.2.2.2.2.1 a2.1
  have hpk := (spPk_in (tp := tp) (k + 3)).1
  rw [hm] at a4 b1
  rw [if_neg (show ¬ (if true = true then (1 : Int) else 0) = 0 by decide)] at a4
  unfold M_qPartTold_p78 at a4
  rw [b1, Option.bind_some] at a4
  dsimp only at a4
  rw [if_neg (show ¬ (if true = true then (1 : Int) else 0) = 0 by decide)] at a4
  exact ⟨h4, a1.k.tr b2.k, a2.fr b2 (b3 hm) (by omega), a4⟩
theorem pt_max (hmd : md = 0 ∨ md = 1 ∨ md = 2) {h : jH} (hs : MK h o tp md k g op bs W C) (hc : spTx tp k ≠ 40) (hn : spWd tp g k spWmin = false) (hm : spWd tp g k spWmax = true) : ∃ h0, MKg o h h0 ∧ MK h0 o tp md (spPk tp (k + 3)) ((k + 3 : Nat) : Int) op bs W C ∧ M_qPartTold_B2 h o 1 = M_qPartTold_p101 h0 o 1 0 := by
  obtain ⟨h3, a1, a2, a3, a4⟩ := pt_here hmd hs hc
  obtain ⟨h4, b1, b2, b3, b4⟩ := m_isHere (r := o + 54) (n := 3) (w := spWmax) (by omega) rfl (by decide) a2.2.1.1.2.2.2.2.2.2 a2.1
  have s4 := a2.fr b2 b3 (Nat.le_refl _)
  obtain ⟨h5, c1, c2, c3, c4⟩ := m_takes (r := o + 53) (n := 3) (w := spWmin) (by omega) rfl (by decide) s4.2.1.1.2.2.2.2.2.1 s4.1
  have s5 := s4.fr c2 (c4 hn).1 (Nat.le_refl _)
  obtain ⟨h6, d1, d2, d3, -⟩ := m_asksW (r := o + 54) (n := 3) (w := spWmax) (by omega) rfl (by decide) s5.2.1.1.2.2.2.2.2.2 s5.1
  have hpk := (spPk_in (tp := tp) (k + 3)).1
  rw [hn, if_pos (show (if false = true then (1 : Int) else 0) = 0 from rfl), b1, Option.bind_some] at a4
  dsimp only at a4
  rw [hm, if_neg (show ¬ (if true = true then (1 : Int) else 0) = 0 by decide)] at a4
  unfold M_qPartTold_p78 at a4
  rw [c1, Option.bind_some] at a4
  dsimp only at a4
  rw [hn, if_pos (show (if false = true then (1 : Int) else 0) = 0 from rfl), d1, Option.bind_some] at a4
  exact ⟨h6, a1.k.tr (b2.k.tr (c2.k.tr d2.k)), s5.fr d2 (d3 hm) (by omega), a4⟩
theorem pt_neither (hmd : md = 0 ∨ md = 1 ∨ md = 2) {h : jH} (hs : MK h o tp md k g op bs W C) (hc : spTx tp k ≠ 40) (hn : spWd tp g k spWmin = false) (hm : spWd tp g k spWmax = false) : ∃ h3, MFw o h h3 ∧ MK h3 o tp md k g op bs W C ∧ h3 o 2 = (k : Int) ∧ M_qPartTold_B2 h o 1 = (if (if 9 ≤ spWq tp g k ∧ spWq tp g k < 11 ∧ spAld md (spWq tp g k) = true then spWq tp g k else -1) = (-1) then some (.inl (0, h3)) else Option.bind (M_qOpens h3 o (wr ((wr (60 + (if 9 ≤ spWq tp g k ∧ spWq tp g k < 11 ∧ spAld md (spWq tp g k) = true then spWq tp g k else -1))) - 9)) (k : Int)) (fun b12 => Option.bind (M_qAsksWord b12 o (if 9 ≤ spWq tp g k ∧ spWq tp g k < 11 ∧ spAld md (spWq tp g k) = true then spWq tp g k else -1)) (fun b13 => some (.inl (1, b13))))) := by
  obtain ⟨h3, a1, a2, a3, a4⟩ := pt_here hmd hs hc
  obtain ⟨h4, b1, b2, b3, b4⟩ := m_isHere (r := o + 54) (n := 3) (w := spWmax) (by omega) rfl (by decide) a2.2.1.1.2.2.2.2.2.2 a2.1
  rw [hn, if_pos (show (if false = true then (1 : Int) else 0) = 0 from rfl), b1, Option.bind_some] at a4
  dsimp only at a4
  rw [hm, if_pos (show (if false = true then (1 : Int) else 0) = 0 from rfl), b4] at a4
  exact ⟨h4, a1.tr b2, a2.fr b2 b3 (Nat.le_refl _), b4, a4⟩
/-- octet, value -/
theorem pt_word (hmd : md = 0 ∨ md = 1 ∨ md = 2) (hop : op ≤ 6) {h : jH} (hs : MK h o tp md k g op bs W C) (hc : spTx tp k ≠ 40) (hn : spWd tp g k spWmin = false) (hm : spWd tp g k spWmax = false) (hq : 9 ≤ spWq tp g k) (ha : spAld md (spWq tp g k) = true) : (op = 6 → mBd o h (mFT o was h) (4, k)) ∧ (op ≤ 5 → ∃ h', mFT o was h = mFT o was h' ∧ MKg o h h' ∧ MK h' o tp md (spPk tp (k + 5)) ((k + 5 : Nat) : Int) (op + 1) bs ((60 + (spWq tp g k - 9)) :: W) C) := by
  obtain ⟨h3, a1, a2, a3, a4⟩ := pt_neither hmd hs hc hn hm
  have hw := spWq_word (tp := tp) (g := g) (k := k) (by omega)
  have hbd := hs.2.2.2.2.2.2
  have hq2 : (if 9 ≤ spWq tp g k ∧ spWq tp g k < 11 ∧ spAld md (spWq tp g k) = true then spWq tp g k else -1) = spWq tp g k := if_pos ⟨hq, by omega, ha⟩
  rw [hq2, if_neg (by omega), pw (x := 60 + spWq tp g k) (by omega) (by omega), pw (x := 60 + spWq tp g k - 9) (by omega) (by omega), show 60 + spWq tp g k - 9 = 60 + (spWq tp g k - 9) by omega] at a4
  obtain ⟨o6, o5⟩ := k_open (v := 60 + (spWq tp g k - 9)) (pos := k) a2 hop
  refine ⟨fun e => ?_, fun e => ?_⟩
  · obtain ⟨h4, b1, b2, b3⟩ := o6 e
    rw [b1, Option.bind_some, m_wordBad (by rw [b3.1]; exact b3.2.2), Option.bind_some] at a4
    rw [pt_step a4]
    exact mBd.T (a1.k.tr b2.k) b3 (a2.c99.fw b2)
  · obtain ⟨h4, b1, b2, b3, b4⟩ := o5 e
    obtain ⟨h5, c1, c2, c3⟩ := k_asksWord b3.2.1 b3.1 (by omega)
    rw [b1, Option.bind_some, c1, Option.bind_some] at a4
    have h5l := hw.2.2.2.2 hq
    rw [h5l] at c3
    have hpk := (spPk_in (tp := tp) (k + 5)).1
    exact ⟨h5, pt_step a4, a1.k.tr (b2.tr c2.k), (b3.fr c2 c3).full (by rw [List.length_cons]; omega)⟩
theorem m_codeAny {h : jH} {v : Int} {n : Nat} (h99 : h o 99 = (n : Int)) (hn : n < 1700) : ∃ h', M_qCode h o v = some h' ∧ MKg o h h' ∧ h' o 5 = h o 5 ∧ h' o 6 = h o 6 ∧ (n ≤ 1600 → M99 o h') := by
  unfold M_qCode
  rw [h99, if_pos (by omega)]
  exact ⟨_, rfl, ⟨fun z z1 z2 _ => by rw [jup_ne z1, jup_ne z2], fun f _ _ _ _ _ f6 _ _ _ => by rw [ju_ne f6, jup_ne (by omega)]⟩, by rw [ju_ne (by decide), jup_ne (by omega)], by rw [ju_ne (by decide), jup_ne (by omega)], fun hn2 => ⟨n + 1, by rw [ju_eq, jup_ne (by omega), h99, pw (by omega) (by omega)]; rfl, by omega⟩⟩
theorem m_endsBad {h : jH} (h5 : h o 5 ≠ 0) : M_qEndsPart h o = some h := by
  unfold M_qEndsPart M_qEndsPart_L0
  refine jloop_r ?_
  unfold M_qEndsPart_B0
  rw [if_neg h5]
  rfl
/-- a word, a number -/
theorem pt_leaf (hmd : md = 0 ∨ md = 1 ∨ md = 2) {h : jH} (hs : MK h o tp md k g op bs W C) (hc : spTx tp k ≠ 40) (hn : spWd tp g k spWmin = false) (hm : spWd tp g k spWmax = false) (hq : ¬ (9 ≤ spWq tp g k ∧ spAld md (spWq tp g k) = true)) : ((0 ≤ spWq tp g k ∧ spAld md (spWq tp g k) = true) → ∃ h', mFT o was h = mFE o was h' ∧ MKg o h h' ∧ MK h' o tp md (spPk tp (spLe tp k)) (spLe tp k : Int) op bs W (C ++ [40 + spWq tp g k])) ∧ (¬ (0 ≤ spWq tp g k ∧ spAld md (spWq tp g k) = true) → (∀ e, spNum tp g k 0 9999 = .inl e → mBd o h (mFT o was h) e) ∧ ∀ x e, spNum tp g k 0 9999 = .inr (x, e) → ∃ h', mFT o was h = mFE o was h' ∧ MKg o h h' ∧ MK h' o tp md (spPk tp e) (e : Int) op bs W (C ++ [1000 + x])) := by
  obtain ⟨h3, a1, a2, a3, a4⟩ := pt_neither hmd hs hc hn hm
  have hbd := hs.2.2.2.2.2.2
  have hl := hs.1.le
  have hq2 : (if 9 ≤ spWq tp g k ∧ spWq tp g k < 11 ∧ spAld md (spWq tp g k) = true then spWq tp g k else -1) = -1 := if_neg (fun h => hq ⟨h.1, h.2.2⟩)
  rw [hq2, if_pos (show (-1 : Int) = -1 from rfl)] at a4
  obtain ⟨h4, b1, b2, b3, b4⟩ := k_wordOf (lo := 0) (hi := 9) hmd a2.2.1 a2.2.2.1 a2.1
  have s4 := a2.fr b2 b3 (Nat.le_refl _)
  rw [pt_leave a4]
  unfold M_qPartTold_p186 M_qPartTold_p212 M_qPartTold_p237
  rw [if_pos a2.1.2.2.2, b1, Option.bind_some]
  dsimp only
  refine ⟨fun hw => ?_, fun hw => ?_⟩
  · have h9 : spWq tp g k < 9 := by
      by_cases e : spWq tp g k < 9
      · exact e
      · exact absurd ⟨by omega, hw.2⟩ hq
    have hw2 := spWq_word (tp := tp) (g := g) (k := k) (by omega)
    have hpk := (spPk_in (tp := tp) (spLe tp k)).1
    rw [if_pos (show 0 ≤ spWq tp g k ∧ spWq tp g k < 9 ∧ spAld md (spWq tp g k) = true from ⟨hw.1, h9, hw.2⟩), if_neg (by omega)]
    obtain ⟨h5, c1, c2, c3⟩ := k_asksWord s4.2.1 s4.1 (by omega)
    have s5 := s4.fr c2 c3 (by omega)
    obtain ⟨h6, d1, d2, d3⟩ := k_code (v := 40 + spWq tp g k) s5 (by omega)
    rw [c1, Option.bind_some, if_neg (by omega), pw (x := 40 + spWq tp g k) (by omega) (by omega), d1, Option.bind_some]
    refine ⟨h6, ?_, a1.k.tr (b2.k.tr (c2.k.tr d2)), d3⟩
    rw [← mFR_E d3.1.2.2.2]
    cases M_qEndsPart h6 o with
    | none => rfl
    | some x => rfl
  · have hq3 : (if 0 ≤ spWq tp g k ∧ spWq tp g k < 9 ∧ spAld md (spWq tp g k) = true then spWq tp g k else -1) = -1 := if_neg (fun h => hw ⟨h.1, h.2.2⟩)
    rw [hq3, if_pos (show (-1 : Int) = -1 from rfl), if_pos (show (-1 : Int) = -1 from rfl)]
    obtain ⟨h5, v, c1, c2, c3, c4⟩ := m_number (lo := 0) (hi := 9999) s4.1
    rw [c1, Option.bind_some]
    dsimp only
    refine ⟨fun e he => ?_, fun x e he => ?_⟩
    · have hb := c3 e he
      obtain ⟨h6, d1, d2, d3, d4, d5⟩ := m_codeAny (o := o) (h := h5) (v := wr (1000 + v)) (n := C.length) (by rw [c2.2 99 (by decide) (by decide) (by decide) (by decide) (by decide)]; exact s4.2.2.2.2.2.1.2.1) (by omega)
      have hb6 := hb.fd d3 d4
      rw [d1, Option.bind_some, m_endsBad (by rw [hb6.1]; exact hb6.2.2), Option.bind_some, Option.bind_some]
      exact mBd.R (a1.k.tr (b2.k.tr (c2.k.tr d2))) hb6 (d5 (by omega))
    · obtain ⟨rfl, hst⟩ := c4 x e he
      have hok := spNum_ok he
      have hpk := (spPk_in (tp := tp) e).1
      have s5 := s4.fr c2 hst (by omega)
      obtain ⟨h6, d1, d2, d3⟩ := k_code (v := 1000 + v) s5 (by omega)
      rw [pw (x := 1000 + v) (by omega) (by omega), d1, Option.bind_some]
      refine ⟨h6, ?_, a1.k.tr (b2.k.tr (c2.k.tr d2)), d3⟩
      rw [← mFR_E d3.1.2.2.2]
      cases M_qEndsPart h6 o with
      | none => rfl
      | some x => rfl
end MPT2
/-- the reference reads as P does -/
def mRd (o : Nat) (tp : List Int) (md bs : Nat) (was : Int) (op : Nat) (P : spF) : Prop := ∀ (h : jH) (k : Nat) (g : Int) (W C : List Int), bs ≤ W.length → MK h o tp md k g op bs W C → (∀ e, P k g = .inl e → mBd o h (mFT o was h) e) ∧ ∀ k2 g2 K, P k g = .inr (k2, g2, K) → ∃ h', mFT o was h = mFE o was h' ∧ MKg o h h' ∧ MK h' o tp md k2 g2 op bs W (C ++ K)
section MSM
variable {o : Nat} {tp : List Int} {md k op bs : Nat} {g was : Int} {W C : List Int}
theorem k_sign140 {h : jH} {c : Int} (hc : c = 42 ∨ c = 47) (h2 : h o 2 = ((k + 1 : Nat) : Int)) (hk : k < tp.length) (ht : MTx h o tp) (e : spTx tp k = c) : M_qGoesOn_p140 h o = M_qGoesOn_L162 h o (if spTx tp k = 42 then 3 else 4) := by
  have hl := ht.2.1
  unfold M_qGoesOn_p140 M_qGoesOn_p161
  rw [h2, pw (by omega) (by omega), if_pos (by omega), show ((((k + 1 : Nat) : Int)) - 1).toNat = k by omega, ht.at hk]
  split <;> rfl
theorem k_sign225 {h : jH} {c : Int} (hc : c = 43 ∨ c = 45) (h2 : h o 2 = ((k + 1 : Nat) : Int)) (hk : k < tp.length) (ht : MTx h o tp) (e : spTx tp k = c) : M_qGoesOn_p225 h o = M_qGoesOn_L247 h o (if spTx tp k = 43 then 1 else 2) := by
  have hl := ht.2.1
  unfold M_qGoesOn_p225 M_qGoesOn_p246
  rw [h2, pw (by omega) (by omega), if_pos (by omega), show ((((k + 1 : Nat) : Int)) - 1).toNat = k by omega, ht.at hk]
  split <;> rfl
theorem k_to122 {h : jH} (hs : MK h o tp md k g op bs W C) (hc : spTx tp k ≠ 41) : ∃ h1, M_qGoesOn h o = M_qGoesOn_p122 h1 o ∧ MFw o h h1 ∧ MK h1 o tp md k g op bs W C := by
  obtain ⟨h1, a1, a2, a3, a4, -⟩ := m_look hs.1
  refine ⟨h1, ?_, a2, hs.fr a2 a4 (Nat.le_refl _)⟩
  unfold M_qGoesOn M_qGoesOn_L0
  refine jloop_x ?_
  unfold M_qGoesOn_B0
  rw [if_pos hs.1.2.2.2, a1, Option.bind_some]
  dsimp only
  rw [if_neg hc]
theorem k_mul {h : jH} (hs : MK h o tp md k g op bs W C) (hc : spTx tp k = 42 ∨ spTx tp k = 47) : ∃ h1, M_qGoesOn h o = M_qGoesOn_L162 h1 o (if spTx tp k = 42 then 3 else 4) ∧ MFw o h h1 ∧ MK h1 o tp md (spPk tp (k + 1)) g op bs W C := by
  obtain ⟨h1, a1, a2, a3⟩ := k_to122 hs (by omega)
  have hk : k < tp.length := by rcases hc with c | c; exact spByt_neg c (by decide); exact spByt_neg c (by decide)
  have hpk := (spPk_in (tp := tp) (k + 1)).1
  rw [a1]
  unfold M_qGoesOn_p122
  obtain ⟨h2, b1, b2, b3, b4⟩ := m_takesSign (c := 42) (by decide) a3.1
  rw [b1, Option.bind_some]
  dsimp only
  by_cases c : spTx tp k = 42
  · rw [if_pos c, if_neg (show ¬ (1 : Int) = 0 by decide)]
    rw [if_pos c] at b3 b4
    exact ⟨h2, by rw [k_sign140 (Or.inl rfl) b4 hk b3.1 c, if_pos c], a2.tr b2, a3.fr b2 b3 (by omega)⟩
  · rw [if_neg c, if_pos (show (0 : Int) = 0 from rfl)]
    rw [if_neg c] at b3 b4
    have s2 := a3.fr b2 b3 (Nat.le_refl _)
    obtain ⟨h3, c1, c2, c3, c4⟩ := m_takesSign (c := 47) (by decide) s2.1
    have c' : spTx tp k = 47 := hc.resolve_left c
    rw [if_pos c'] at c1 c3 c4
    rw [c1, Option.bind_some]
    dsimp only
    rw [if_neg (show ¬ (1 : Int) = 0 by decide)]
    exact ⟨h3, by rw [k_sign140 (Or.inr rfl) c4 hk c3.1 c', if_neg c], a2.tr (b2.tr c2), s2.fr c2 c3 (by omega)⟩
theorem k_add {h : jH} (hs : MK h o tp md k g op bs W C) (hc : spTx tp k = 43 ∨ spTx tp k = 45) : ∃ h1, M_qGoesOn h o = M_qGoesOn_L247 h1 o (if spTx tp k = 43 then 1 else 2) ∧ MFw o h h1 ∧ MK h1 o tp md (spPk tp (k + 1)) g op bs W C := by
  obtain ⟨h1, a1, a2, a3⟩ := k_to122 hs (by omega)
  have hk : k < tp.length := by rcases hc with c | c; exact spByt_neg c (by decide); exact spByt_neg c (by decide)
  have hpk := (spPk_in (tp := tp) (k + 1)).1
  rw [a1]
  unfold M_qGoesOn_p122
  obtain ⟨h2, b1, b2, b3, b4⟩ := m_takesSign (c := 42) (by decide) a3.1
  rw [if_neg (by omega)] at b1 b3 b4
  have s2 := a3.fr b2 b3 (Nat.le_refl _)
  obtain ⟨h3, c1, c2, c3, c4⟩ := m_takesSign (c := 47) (by decide) s2.1
  rw [if_neg (by omega)] at c1 c3 c4
  have s3 := s2.fr c2 c3 (Nat.le_refl _)
  rw [b1, Option.bind_some]
  dsimp only
  rw [if_pos (show (0 : Int) = 0 from rfl), c1, Option.bind_some]
  dsimp only
  rw [if_pos (show (0 : Int) = 0 from rfl)]
  obtain ⟨h4, d1, d2, d3, d4⟩ := m_takesSign (c := 43) (by decide) s3.1
  rw [d1, Option.bind_some]
  dsimp only
  by_cases c : spTx tp k = 43
  · rw [if_pos c, if_neg (show ¬ (1 : Int) = 0 by decide)]
    rw [if_pos c] at d3 d4
    exact ⟨h4, by rw [k_sign225 (Or.inl rfl) d4 hk d3.1 c, if_pos c], a2.tr (b2.tr (c2.tr d2)), s3.fr d2 d3 (by omega)⟩
  · rw [if_neg c, if_pos (show (0 : Int) = 0 from rfl)]
    rw [if_neg c] at d3 d4
    have s4 := s3.fr d2 d3 (Nat.le_refl _)
    obtain ⟨h5, e1, e2, e3, e4⟩ := m_takesSign (c := 45) (by decide) s4.1
    have c' : spTx tp k = 45 := hc.resolve_left c
    rw [if_pos c'] at e1 e3 e4
    rw [e1, Option.bind_some]
    dsimp only
    rw [if_neg (show ¬ (1 : Int) = 0 by decide)]
    exact ⟨h5, by rw [k_sign225 (Or.inr rfl) e4 hk e3.1 c', if_neg c], a2.tr (b2.tr (c2.tr (d2.tr e2))), s4.fr e2 e3 (by omega)⟩
theorem mFG_on {h h1 : jH} (e : M_qGoesOn h o = some (1, h1)) (h5 : h1 o 5 = 0) : mFG o was h = mFT o was h1 := by
  unfold mFG
  rw [e, Option.bind_some]
  dsimp only
  rw [if_neg (show ¬ (1 : Int) = 0 by decide)]
  exact k_loop h5
theorem mFE_G {h : jH} (hw : W.length = bs ∨ ∃ w W', W = w :: W' ∧ w < 60 ∧ bs ≤ W'.length) (hs : MK h o tp md k g op bs W C) : mFE o was h = mFG o was h := by
  unfold mFE
  rw [k_ends0 hw hs, Option.bind_some]
end MSM
