/-! the reference: a whole sum; what a test needs -/
section MTP
variable {o : Nat} {tp : List Int} {md k op bs : Nat} {g was : Int} {W C : List Int}
theorem k_dec {h : jH} (hs : MK h o tp md k g (op + 1) bs W C) : MKg o h (jup h o 102 (op : Int)) ∧ MK (jup h o 102 (op : Int)) o tp md k g op bs W C := by
  obtain ⟨h1, hh1⟩ : ∃ h1 : jH, h1 = jup h o 102 (op : Int) := ⟨_, rfl⟩
  have go : ∀ z, z ≠ o → h1 z = h z := fun z z1 => by rw [hh1, jup_ne z1]
  have gf : ∀ f, f ≠ 102 → h1 o f = h o f := fun f hf => by rw [hh1, ju_ne hf]
  rw [← hh1]
  obtain ⟨s1, s2, s3, s4, s5, ⟨⟨s6, s7⟩, s8, s9⟩, s10⟩ := hs
  exact ⟨⟨fun z z1 _ _ => go z z1, fun f _ _ _ _ _ _ _ f8 _ => gf f f8⟩, s1.fd (go _ (by omega)) (fun f hf => gf f (by omega)), s2.fr (fun z z1 _ _ => go z z1), by rw [gf 44 (by decide)]; exact s3, by rw [hh1, ju_eq], by rw [gf 103 (by decide)]; exact s5, ⟨⟨by rw [gf 101 (by decide)]; exact s6, fun i v hv => by rw [go _ (by omega)]; exact s7 i v hv⟩, by rw [gf 99 (by decide)]; exact s8, fun i v hv => by rw [go _ (by omega)]; exact s9 i v hv⟩, s10⟩
theorem k_base {h : jH} {b2 : Nat} (hs : MK h o tp md k g op bs W C) : MKg o h (jup h o 103 (b2 : Int)) ∧ MK (jup h o 103 (b2 : Int)) o tp md k g op b2 W C := by
  obtain ⟨h1, hh1⟩ : ∃ h1 : jH, h1 = jup h o 103 (b2 : Int) := ⟨_, rfl⟩
  have go : ∀ z, z ≠ o → h1 z = h z := fun z z1 => by rw [hh1, jup_ne z1]
  have gf : ∀ f, f ≠ 103 → h1 o f = h o f := fun f hf => by rw [hh1, ju_ne hf]
  rw [← hh1]
  obtain ⟨s1, s2, s3, s4, s5, ⟨⟨s6, s7⟩, s8, s9⟩, s10⟩ := hs
  exact ⟨⟨fun z z1 _ _ => go z z1, fun f _ _ _ _ _ _ _ _ f9 => gf f f9⟩, s1.fd (go _ (by omega)) (fun f hf => gf f (by omega)), s2.fr (fun z z1 _ _ => go z z1), by rw [gf 44 (by decide)]; exact s3, by rw [gf 102 (by decide)]; exact s4, by rw [hh1, ju_eq], ⟨⟨by rw [gf 101 (by decide)]; exact s6, fun i v hv => by rw [go _ (by omega)]; exact s7 i v hv⟩, by rw [gf 99 (by decide)]; exact s8, fun i v hv => by rw [go _ (by omega)]; exact s9 i v hv⟩, s10⟩
theorem k_dropAll {w2 : Nat} (hbs : W.length = bs) : ∀ (m C : List Int) (h : jH), MK h o tp md k g op bs (m ++ W) C → ∃ h', M_qSums_L53 h o (w2 : Int) = some h' ∧ MKg o h h' ∧ MK h' o tp md k g op w2 W (C ++ m) := by
  unfold M_qSums_L53
  intro m
  induction m with
  | nil =>
    intro C h hs
    obtain ⟨f1, s1⟩ := k_base (b2 := w2) hs
    refine ⟨_, jloop_r ?_, f1, by rw [List.append_nil]; exact s1⟩
    unfold M_qSums_B53
    rw [if_pos hs.1.2.2.2, hs.2.2.2.2.1, hs.2.2.2.2.2.1.1.1, List.nil_append, if_neg (by omega)]
    rfl
  | cons x m ih =>
    intro C h hs
    obtain ⟨h1, e1, e2, e3⟩ := k_drop (W := m ++ W) (w := x) hs
    obtain ⟨h', y1, y2, y3⟩ := ih (C ++ [x]) h1 e3
    refine ⟨h', (jloop_l (s' := h1) ?_).trans y1, e2.tr y2, by rw [List.append_assoc] at y3; exact y3⟩
    unfold M_qSums_B53
    rw [if_pos hs.1.2.2.2, hs.2.2.2.2.1, hs.2.2.2.2.2.1.1.1, if_pos (by rw [List.cons_append, List.length_cons, List.length_append]; omega), e1, Option.bind_some]
/-- a whole sum -/
theorem mSums (hmd : md = 0 ∨ md = 1 ∨ md = 2) {P : spF} (hP : ∀ bs was, mRd o tp md bs was op P) (hG : spGr tp P) (hW : W.head? ≠ some 3 ∧ W.head? ≠ some 4 ∧ W.head? ≠ some 1 ∧ W.head? ≠ some 2) {h : jH} (hs : MK h o tp md k g op bs W C) : (∀ e, spSms tp P k g = .inl e → mBd o h (M_qSums h o) e) ∧ ∀ k2 g2 K, spSms tp P k g = .inr (k2, g2, K) → ∃ h', M_qSums h o = some h' ∧ MKg o h h' ∧ MK h' o tp md k2 g2 op bs W (C ++ K) := by
  obtain ⟨f1, s1⟩ := k_base (b2 := W.length) hs
  have hT : M_qSums h o = mFT o (bs : Int) (jup h o 103 (W.length : Int)) := by
    unfold M_qSums
    rw [hs.2.2.2.2.1, hs.2.2.2.2.2.1.1.1, k_loop s1.1.2.2.2]
  rw [hT]
  obtain ⟨p1, p2⟩ := mSms (hP W.length (bs : Int)) hG (Nat.le_refl _) (Or.inl rfl) hW s1
  refine ⟨fun e he => mBd.tr f1 (p1 e he), fun k2 g2 K he => ?_⟩
  obtain ⟨h2, m, C2, q1, q2, q3, q4, q5, q6⟩ := p2 k2 g2 K he
  obtain ⟨h3, a1, a2, a3⟩ := k_stay0 (notB q4) rfl q3
  obtain ⟨h4, b1, b2, b3, -⟩ := k_122 a3 q6
  have hbr := k_brkNo (notB q4) rfl b3
  obtain ⟨h5, c1, c2, c3⟩ := k_dropAll (w2 := bs) rfl m C2 h4 b3
  refine ⟨h5, ?_, f1.tr (q2.tr (a2.k.tr (b2.k.tr c2))), by rw [q5] at c3; exact c3⟩
  rw [q1]
  unfold mFG
  rw [a1, b1, hbr, Option.bind_some, if_neg (by decide), Option.bind_some, if_neg (by decide), Option.bind_some, if_pos rfl, Option.bind_some]
  dsimp only
  rw [if_pos (show (0 : Int) = 0 from rfl)]
  unfold M_qSums_L15
  refine jloop_x (X := some h5) ?_
  show M_qSums_B15 h4 o (bs : Int) 0 = _
  unfold M_qSums_B15
  rw [if_pos (show (0 : Int) = 0 from rfl), c1]
theorem k_nots0 {h : jH} (hW : W.head? ≠ some 12) (hs : MK h o tp md k g op bs W C) : M_qDropsNots h o = some h := by
  unfold M_qDropsNots M_qDropsNots_L0
  refine jloop_r ?_
  unfold M_qDropsNots_B0
  rw [if_pos hs.1.2.2.2, k_isOn hs, Option.bind_some, if_neg hW, if_pos rfl]
  rfl
theorem k_nots1 {h : jH} (hop : op ≤ 10) (hs : MK h o tp md k g (op + 1) bs (12 :: W) C) : ∃ h', M_qDropsNots h o = M_qDropsNots h' o ∧ MKg o h h' ∧ MK h' o tp md k g op bs W (C ++ [12]) := by
  obtain ⟨f1, s1⟩ := k_dec hs
  obtain ⟨h2, e1, e2, e3⟩ := k_drop s1
  refine ⟨h2, ?_, f1.tr e2, e3⟩
  unfold M_qDropsNots M_qDropsNots_L0
  refine jloop_l (s' := h2) ?_
  unfold M_qDropsNots_B0
  rw [if_pos hs.1.2.2.2, k_isOn hs, Option.bind_some, if_pos (show (12 :: W).head? = some 12 from rfl), if_neg (by decide), hs.2.2.2.1, pw (by omega) (by omega), show ((op + 1 : Nat) : Int) - 1 = (op : Int) by omega, e1, Option.bind_some]
theorem m_nots5 {h h' : jH} (e : M_qDropsNots h o = some h') : h' o 5 = h o 5 := by
  refine jloop_q (f := fun s : jH => M_qDropsNots_B0 s o) (P := fun s => s o 5 = h o 5) (Q := fun s => s o 5 = h o 5) ?_ ?_ rfl e
  · intro s s' hs es
    have es' : M_qDropsNots_B0 s o = some (.inl s') := es
    unfold M_qDropsNots_B0 at es'
    split at es'
    · cases e3 : M_qIsOn s o 12 with
      | none => rw [e3] at es'; cases es'
      | some b2 =>
        rw [e3, Option.bind_some] at es'
        split at es'
        · cases es'
        · cases e2 : M_qDrops (jup s o 102 (wr (s o 102 - 1))) o with
          | none => rw [e2] at es'; cases es'
          | some b => rw [e2] at es'; cases es'; rw [m_drops5 e2, ju_ne (by decide)]; exact hs
    · cases es'
  · intro s s' hs es
    have es' : M_qDropsNots_B0 s o = some (.inr s') := es
    unfold M_qDropsNots_B0 at es'
    split at es'
    · cases e3 : M_qIsOn s o 12 with
      | none => rw [e3] at es'; cases es'
      | some b2 =>
        rw [e3, Option.bind_some] at es'
        split at es'
        · cases es'; exact hs
        · cases e2 : M_qDrops (jup s o 102 (wr (s o 102 - 1))) o with
          | none => rw [e2] at es'; cases es'
          | some b => rw [e2] at es'; cases es'
    · cases es'; exact hs
theorem m_notsBad {h : jH} (h5 : h o 5 ≠ 0) : M_qDropsNots h o = some h := by
  unfold M_qDropsNots M_qDropsNots_L0
  refine jloop_r ?_
  unfold M_qDropsNots_B0
  rw [if_neg h5]
  rfl
theorem k_hasL {h : jH} (hb : W.length ≤ 1600) (hs : MStk h o W C) : ∀ n j, n = W.length - j → j ≤ W.length → M_qHasSquare_L2 h o (j : Int) = some (if (25 : Int) ∈ W.reverse.drop j then 1 else 0) := by
  unfold M_qHasSquare_L2
  intro n
  induction n with
  | zero =>
    intro j hn hj
    have hj2 : j = W.length := by omega
    refine jloop_r ?_
    unfold M_qHasSquare_B2
    rw [hs.1.1, if_neg (by omega), List.drop_eq_nil_of_le (by rw [List.length_reverse]; omega), if_neg List.not_mem_nil]
    rfl
  | succ n ih =>
    intro j hn hj
    have hlt : j < W.reverse.length := by rw [List.length_reverse]; omega
    have hcell : h (o + 66) j = W.reverse[j] := by
      have := hs.1.2 (W.length - 1 - j) W.reverse[j] (by rw [List.getElem_reverse]; exact List.getElem?_eq_getElem _)
      rw [← this, show W.length - 1 - (W.length - 1 - j) = j by omega]
    rw [List.drop_eq_getElem_cons hlt]
    by_cases c : W.reverse[j] = 25
    · refine jloop_r ?_
      unfold M_qHasSquare_B2
      rw [hs.1.1, if_pos (by omega), if_pos (by omega), Int.toNat_natCast, hcell, if_pos c, if_pos (by rw [c]; exact List.mem_cons_self)]
      rfl
    · refine (jloop_l (s' := ((j + 1 : Nat) : Int)) ?_).trans ((ih (j + 1) (by omega) (by omega)).trans ?_)
      · unfold M_qHasSquare_B2
        rw [hs.1.1, if_pos (by omega), if_pos (by omega), Int.toNat_natCast, hcell, if_neg c, pw (by omega) (by omega)]
        rfl
      · by_cases d : (25 : Int) ∈ W.reverse.drop (j + 1)
        · rw [if_pos d, if_pos (List.mem_cons_of_mem _ d)]
        · rw [if_neg d, if_neg (fun e => (List.mem_cons.mp e).elim (fun e => c e.symm) d)]
theorem k_has {h : jH} (hs : MK h o tp md k g op bs W C) : M_qHasSquare h o = some (if (25 : Int) ∈ W then 1 else 0) := by
  have hl := hs.1.le
  have hbd := hs.2.2.2.2.2.2
  unfold M_qHasSquare
  refine (k_hasL (by omega) hs.2.2.2.2.2.1 W.length 0 (by omega) (by omega)).trans ?_
  rw [List.drop_zero]
  by_cases d : (25 : Int) ∈ W
  · rw [if_pos d, if_pos (List.mem_reverse.mpr d)]
  · rw [if_neg d, if_neg (fun e => d (List.mem_reverse.mp e))]
end MTP
