/-! the reference reads tests -/
noncomputable def tT (o : Nat) (h : jH) : Option jH := M_qTest_L2 h o 1
noncomputable def tG (o : Nat) (h : jH) : Option jH := Option.bind (M_qGoesOnTest h o) (fun b => if b.1 = 0 then M_qTest_L2 b.2 o 0 else M_qTest_L2 b.2 o 1)
noncomputable def tE (o : Nat) (h : jH) : Option jH := Option.bind (M_qDropsNots h o) (tG o)
/-- all is at its end, badly -/
def tBd (o : Nat) (h : jH) (X : Option jH) (e : Int × Nat) : Prop := ∃ h', X = some h' ∧ MKg o h h' ∧ MBad o h' e
theorem tBd.tr {o : Nat} {h h1 : jH} {X : Option jH} {e : Int × Nat} (f : MKg o h h1) (b : tBd o h1 X e) : tBd o h X e := by
  obtain ⟨h', a1, a2, a3⟩ := b
  exact ⟨h', a1, f.tr a2, a3⟩
def tOn (W : List Int) : Prop := ∀ x ∈ W, x = 25 ∨ x = 12 ∨ x = 10 ∨ x = 11
/-- the reference reads facts as F does -/
def tRd (o : Nat) (tp : List Int) (md bs : Nat) (op : Nat) (F : spF) : Prop := ∀ (h : jH) (k : Nat) (g : Int) (W C : List Int), tOn W → MK h o tp md k g op bs W C → (∀ e, F k g = .inl e → tBd o h (tT o h) e) ∧ ∀ k2 g2 K, F k g = .inr (k2, g2, K) → ∃ h', tT o h = tE o h' ∧ MKg o h h' ∧ MK h' o tp md k2 g2 op bs W (C ++ K)
section MTE
variable {o : Nat} {tp : List Int} {md k op bs : Nat} {g : Int} {W C : List Int}
theorem t_bad {h : jH} {v : Int} (h5 : h o 5 ≠ 0) : M_qTest_L2 h o v = some h := by
  have h110 : M_qTest_L110 h o = some h := by
    unfold M_qTest_L110
    refine jloop_r ?_
    unfold M_qTest_B110
    rw [if_neg h5]
    rfl
  unfold M_qTest_L2
  refine jloop_x (X := some h) ?_
  show M_qTest_B2 h o v = _
  unfold M_qTest_B2
  rw [h110, if_neg h5]
  split <;> rfl
theorem tBd.L {h h1 : jH} {v : Int} {e : Int × Nat} (hf : MKg o h h1) (hb : MBad o h1 e) : tBd o h (M_qTest_L2 h1 o v) e := ⟨h1, t_bad (by rw [hb.1]; exact hb.2.2), hf, hb⟩
theorem t_step {h h' : jH} {v : Int} (hB : M_qTest_B2 h o 1 = some (.inl (v, h'))) : tT o h = M_qTest_L2 h' o v := by
  unfold tT M_qTest_L2
  rw [jloop_l (f := fun s : (Int × jH) => M_qTest_B2 s.2 o s.1) (s := (1, h)) (s' := (v, h')) hB]
/-- behind a fact -/
theorem t_fact {h h1 : jH} (h5 : h1 o 5 = 0) (hB : M_qTest_B2 h o 1 = Option.bind (M_qDropsNots h1 o) (fun b9 => (if (b9 o 5) = 0 then Option.bind (M_qGoesOnTest b9 o) (fun b11 => (if b11.1 = 0 then M_qTest_p105 b11.2 o else some (.inl (1, b11.2)))) else M_qTest_p105 b9 o))) : tT o h = tE o h1 := by
  unfold tT tE M_qTest_L2
  rw [jloop_eq]
  rw [hB]
  cases e : M_qDropsNots h1 o with
  | none => rfl
  | some b9 =>
    have e5 : b9 o 5 = 0 := (m_nots5 e).trans h5
    rw [Option.bind_some, Option.bind_some, if_pos e5]
    unfold tG
    cases e2 : M_qGoesOnTest b9 o with
    | none => rfl
    | some b11 =>
      rw [Option.bind_some, Option.bind_some]
      by_cases c : b11.1 = 0
      · rw [if_pos c, if_pos c]; rfl
      · rw [if_neg c, if_neg c]; rfl
theorem t_factBad {h h1 : jH} {e : Int × Nat} (hf : MKg o h h1) (hb : MBad o h1 e) (hB : M_qTest_B2 h o 1 = Option.bind (M_qDropsNots h1 o) (fun b9 => (if (b9 o 5) = 0 then Option.bind (M_qGoesOnTest b9 o) (fun b11 => (if b11.1 = 0 then M_qTest_p105 b11.2 o else some (.inl (1, b11.2)))) else M_qTest_p105 b9 o))) : tBd o h (tT o h) e := by
  have h5 : h1 o 5 ≠ 0 := by rw [hb.1]; exact hb.2.2
  rw [m_notsBad h5, Option.bind_some, if_neg h5] at hB
  rw [t_step hB]
  exact tBd.L hf hb
theorem t_pre {h : jH} (hs : MK h o tp md k g op bs W C) : ∃ h1, MFw o h h1 ∧ MK h1 o tp md k g op bs W C ∧ h1 o 2 = (k : Int) ∧ M_qTest_B2 h o 1 = (if spTx tp k = 91 then Option.bind (M_qOpens h1 o 25 (k : Int)) (fun b5 => some (.inl (1, (jup b5 o 2 (wr ((b5 o 2) + 1)))))) else Option.bind (M_isHere h1 o (o + 49) 3) (fun b6 => (if b6.1 = 0 then Option.bind (M_qFact b6.2 o) (fun b8 => Option.bind (M_qDropsNots b8 o) (fun b9 => (if (b9 o 5) = 0 then Option.bind (M_qGoesOnTest b9 o) (fun b11 => (if b11.1 = 0 then M_qTest_p105 b11.2 o else some (.inl (1, b11.2)))) else M_qTest_p105 b9 o))) else Option.bind (M_qOpens b6.2 o 12 (b6.2 o 2)) (fun b13 => Option.bind (M_asks b13 o (o + 49) 3) (fun b14 => some (.inl (1, b14))))))) := by
  obtain ⟨h1, a1, a2, a3, a4, -⟩ := m_look hs.1
  refine ⟨h1, a2, hs.fr a2 a4 (Nat.le_refl _), a3, ?_⟩
  unfold M_qTest_B2
  rw [if_neg (show ¬ (1 : Int) = 0 by decide), if_pos hs.1.2.2.2, a1, Option.bind_some]
  dsimp only
  rw [a3]
/-- a square bracket opens -/
theorem t_square (hop : op ≤ 6) {h : jH} (hs : MK h o tp md k g op bs W C) (hc : spTx tp k = 91) : (op = 6 → tBd o h (tT o h) (4, k)) ∧ (op ≤ 5 → ∃ h', tT o h = tT o h' ∧ MKg o h h' ∧ MK h' o tp md (spPk tp (k + 1)) g (op + 1) bs (25 :: W) C) := by
  obtain ⟨h2, a1, a2, a3, a4⟩ := t_pre hs
  rw [if_pos hc] at a4
  have hk : k < tp.length := spByt_neg hc (by decide)
  obtain ⟨o6, o5⟩ := k_open (v := 25) (pos := k) a2 hop
  refine ⟨fun e => ?_, fun e => ?_⟩
  · obtain ⟨h3, b1, b2, b3⟩ := o6 e
    rw [b1, Option.bind_some] at a4
    rw [t_step a4]
    have f4 : MKg o h3 (jup h3 o 2 (wr (h3 o 2 + 1))) := ⟨fun z z1 _ _ => jup_ne z1, fun f f2 _ _ _ _ _ _ _ _ => ju_ne f2⟩
    exact tBd.L (a1.k.tr (b2.k.tr f4)) (b3.fd (by rw [ju_ne (by decide)]) (by rw [ju_ne (by decide)]))
  · obtain ⟨h3, b1, b2, b3, b4⟩ := o5 e
    rw [b1, Option.bind_some] at a4
    have hbd := hs.2.2.2.2.2.2
    obtain ⟨f4, s4⟩ := b3.ju2 (b4.trans a3) hk (by rw [List.length_cons]; omega)
    exact ⟨_, t_step a4, a1.k.tr (b2.tr f4), s4⟩
theorem t_not (hop : op ≤ 6) {h : jH} (hs : MK h o tp md k g op bs W C) (hn : spWd tp g k spWnot = true) : (op = 6 → tBd o h (tT o h) (4, k)) ∧ (op ≤ 5 → ∃ h', tT o h = tT o h' ∧ MKg o h h' ∧ MK h' o tp md (spPk tp (k + 3)) ((k + 3 : Nat) : Int) (op + 1) bs (12 :: W) C) := by
  obtain ⟨h2, a1, a2, a3, a4⟩ := t_pre hs
  have h91 : spTx tp k ≠ 91 := fun e => by rw [spWd_noLt (by rw [e]; decide) (by decide)] at hn; cases hn
  obtain ⟨h3, b1, b2, b3, b4⟩ := m_isHere (r := o + 49) (n := 3) (w := spWnot) (by omega) rfl (by decide) a2.2.1.1.2.1 a2.1
  have s3 := a2.fr b2 b3 (Nat.le_refl _)
  have hpk := (spPk_in (tp := tp) (k + 3)).1
  rw [if_neg h91, b1, Option.bind_some] at a4
  dsimp only at a4
  rw [hn, if_neg (show ¬ (if true = true then (1 : Int) else 0) = 0 by decide), b4] at a4
  obtain ⟨o6, o5⟩ := k_open (v := 12) (pos := k) s3 hop
  refine ⟨fun e => ?_, fun e => ?_⟩
  · obtain ⟨h4, c1, c2, c3⟩ := o6 e
    rw [c1, Option.bind_some, m_asksBad (by rw [c3.1]; exact c3.2.2), Option.bind_some] at a4
    rw [t_step a4]
    exact tBd.L (a1.k.tr (b2.k.tr c2.k)) c3
  · obtain ⟨h4, c1, c2, c3, c4⟩ := o5 e
    obtain ⟨h5, d1, d2, d3, -⟩ := m_asksW (r := o + 49) (n := 3) (w := spWnot) (by omega) rfl (by decide) c3.2.1.1.2.1 c3.1
    rw [c1, Option.bind_some, d1, Option.bind_some] at a4
    have hbd := hs.2.2.2.2.2.2
    exact ⟨h5, t_step a4, a1.k.tr (b2.k.tr (c2.tr d2.k)), (c3.fr d2 (d3 hn)).full (by show _ ≤ spPk tp (k + 3); rw [List.length_cons]; omega)⟩
/-- all, or two sums compared -/
theorem t_leaf (hmd : md = 0 ∨ md = 1 ∨ md = 2) {P : spF} (hP : ∀ bs was, mRd o tp md bs was op P) (hG : spGr tp P) (hW : tOn W) {h : jH} (hs : MK h o tp md k g op bs W C) (hn : spWd tp g k spWnot = false) (h91 : spTx tp k ≠ 91) : (spWd tp g k spWall = true → ∃ h', tT o h = tE o h' ∧ MKg o h h' ∧ MK h' o tp md (spPk tp (k + 3)) ((k + 3 : Nat) : Int) op bs W (C ++ [13])) ∧ (spWd tp g k spWall = false → (∀ e, spCmp tp P k g = .inl e → tBd o h (tT o h) e) ∧ ∀ k2 g2 K, spCmp tp P k g = .inr (k2, g2, K) → ∃ h', tT o h = tE o h' ∧ MKg o h h' ∧ MK h' o tp md k2 g2 op bs W (C ++ K)) := by
  obtain ⟨h2, a1, a2, a3, a4⟩ := t_pre hs
  obtain ⟨h3, b1, b2, b3, b4⟩ := m_isHere (r := o + 49) (n := 3) (w := spWnot) (by omega) rfl (by decide) a2.2.1.1.2.1 a2.1
  have s3 := a2.fr b2 b3 (Nat.le_refl _)
  have hbd := hs.2.2.2.2.2.2
  have hl := hs.1.le
  have hhd : W.head? ≠ some 3 ∧ W.head? ≠ some 4 ∧ W.head? ≠ some 1 ∧ W.head? ≠ some 2 := by
    cases W with
    | nil => exact ⟨fun e => (by cases e), fun e => (by cases e), fun e => (by cases e), fun e => (by cases e)⟩
    | cons w W =>
      have := hW w List.mem_cons_self
      exact ⟨fun e => by have := Option.some.inj e; omega, fun e => by have := Option.some.inj e; omega, fun e => by have := Option.some.inj e; omega, fun e => by have := Option.some.inj e; omega⟩
  rw [if_neg h91, b1, Option.bind_some] at a4
  dsimp only at a4
  rw [hn, if_pos (show (if false = true then (1 : Int) else 0) = 0 from rfl)] at a4
  obtain ⟨h4, c1, c2, c3, c4⟩ := m_takes (r := o + 52) (n := 3) (w := spWall) (by omega) rfl (by decide) s3.2.1.1.2.2.2.2.1 s3.1
  unfold M_qFact at a4
  rw [c1, Option.bind_some] at a4
  dsimp only at a4
  refine ⟨fun ha => ?_, fun ha => ?_⟩
  · have hpk := (spPk_in (tp := tp) (k + 3)).1
    rw [ha, if_neg (show ¬ (if true = true then (1 : Int) else 0) = 0 by decide)] at a4
    have s4 := s3.fr c2 (c3 ha) (by show k ≤ spPk tp (k + 3); omega)
    obtain ⟨h5, d1, d2, d3⟩ := k_code (v := 13) s4 (by show _ ≤ spPk tp (k + 3); omega)
    rw [d1, Option.bind_some, Option.bind_some] at a4
    exact ⟨h5, t_fact d3.1.2.2.2 a4, a1.k.tr (b2.k.tr (c2.k.tr d2)), d3⟩
  · rw [ha, if_pos (show (if false = true then (1 : Int) else 0) = 0 from rfl)] at a4
    have s4 := s3.fr c2 (c4 ha).1 (Nat.le_refl _)
    have f4 : MKg o h h4 := a1.k.tr (b2.k.tr c2.k)
    obtain ⟨p1, p2⟩ := mSums hmd hP hG hhd s4
    unfold spCmp
    cases hp : spSms tp P k g with
    | inl e0 =>
      refine ⟨fun e he => ?_, fun k2 g2 K he => (by cases he)⟩
      cases he
      obtain ⟨h5, d1, d2, d3, d99⟩ := p1 e0 hp
      rw [d1, Option.bind_some, if_neg (show ¬ h5 o 5 = 0 by rw [d3.1]; exact d3.2.2), Option.bind_some] at a4
      exact t_factBad (f4.tr d2) d3 a4
    | inr x =>
      obtain ⟨k1, g1, K1⟩ := x
      obtain ⟨h5, d1, d2, d3⟩ := p2 k1 g1 K1 hp
      obtain ⟨h6, e1, e2, e3, e4, -⟩ := m_look d3.1
      have s6 := d3.fr e2 e4 (Nat.le_refl _)
      rw [d1, Option.bind_some, if_pos d3.1.2.2.2, e1, Option.bind_some] at a4
      dsimp only at a4 ⊢
      have f6 := f4.tr (d2.tr e2.k)
      by_cases c : spTx tp k1 = 60 ∨ spTx tp k1 = 62 ∨ spTx tp k1 = 61
      rotate_left
      · rw [if_neg c]
        refine ⟨fun e he => ?_, fun k2 g2 K he => (by cases he)⟩
        cases he
        obtain ⟨h7, x1, x2, x3, -⟩ := m_failAt (o := o) (h := h6) (e := (1, k1)) s6.1.2.2.2 (show ¬ (1 : Int) = 0 by decide)
        rw [if_neg (fun e => c (Or.inl e)), if_neg (fun e => c (Or.inr (Or.inl e))), if_neg (fun e => c (Or.inr (Or.inr e))), e3, show M_fail h6 o 1 (k1 : Int) = _ from x1, Option.bind_some, Option.bind_some] at a4
        exact t_factBad (f6.tr x2.k) x3 a4
      rw [if_pos c]
      have hk1 : k1 < tp.length := by rcases c with e | e | e <;> exact spByt_neg e (by decide)
      have hbd6 := s6.2.2.2.2.2.2
      obtain ⟨f7, s7⟩ := s6.p.ju2 e3 hk1 (by omega)
      obtain ⟨h7, hh7⟩ : ∃ h7 : jH, h7 = jup h6 o 2 (wr (h6 o 2 + 1)) := ⟨_, rfl⟩
      obtain ⟨v, hv⟩ : ∃ v : Int, v = (if spTx tp k1 = 60 then 7 else if spTx tp k1 = 62 then 8 else 9) := ⟨_, rfl⟩
      have hF : (if spTx tp k1 = 60 then M_qFact_p63 h6 o (spTx tp k1) else if spTx tp k1 = 62 then M_qFact_p63 h6 o (spTx tp k1) else if spTx tp k1 = 61 then M_qFact_p63 h6 o (spTx tp k1) else Option.bind (M_fail h6 o 1 (h6 o 2)) (fun b9 => some b9)) = Option.bind (M_qSums h7 o) (fun b11 => M_qFact_p102 b11 o v) := by
        have hq : M_qFact_p63 h6 o (spTx tp k1) = Option.bind (M_qSums h7 o) (fun b11 => M_qFact_p102 b11 o v) := by
          unfold M_qFact_p63
          rw [← hh7, hv]
          congr 1
          funext b11
          split
          · rfl
          · split <;> rfl
        rw [hq]
        split
        · rfl
        · split
          · rfl
          · rw [if_pos (by omega)]
      rw [hF] at a4
      rw [← hh7] at f7 s7
      obtain ⟨q1, q2⟩ := mSums hmd hP hG hhd s7
      have f7' := f6.tr f7
      cases hp2 : spSms tp P (spPk tp (k1 + 1)) g1 with
      | inl e0 =>
        have e2 : spThen (.inr (k1, g1, K1)) (fun k2 g2 => spEmt [if spTx tp k2 = 60 then 7 else if spTx tp k2 = 62 then 8 else 9] (spSms tp P (spPk tp (k2 + 1)) g2)) = .inl e0 := by unfold spThen; dsimp only; rw [hp2]; rfl
        rw [e2]
        refine ⟨fun e he => ?_, fun k2 g2 K he => (by cases he)⟩
        cases he
        obtain ⟨h8, r1, r2, r3, n, r4, r5⟩ := q1 e0 hp2
        unfold M_qFact_p102 at a4
        obtain ⟨h9, t1, t2, t3, t4, -⟩ := m_codeAny (o := o) (h := h8) (v := v) r4 (by omega)
        rw [r1, Option.bind_some, t1, Option.bind_some, Option.bind_some] at a4
        exact t_factBad (f7'.tr (r2.tr t2)) (r3.fd t3 t4) a4
      | inr y =>
        obtain ⟨k2, g2, K2⟩ := y
        have e2 : spThen (.inr (k1, g1, K1)) (fun k2 g2 => spEmt [if spTx tp k2 = 60 then 7 else if spTx tp k2 = 62 then 8 else 9] (spSms tp P (spPk tp (k2 + 1)) g2)) = .inr (k2, g2, K1 ++ (K2 ++ [v])) := by unfold spThen; dsimp only; rw [hp2, hv]; rfl
        rw [e2]
        refine ⟨fun e he => (by cases he), fun k3 g3 K he => ?_⟩
        cases he
        obtain ⟨h8, r1, r2, r3⟩ := q2 k2 g2 K2 hp2
        have hgr := spSms_gr hG _ _ _ _ _ hp2
        have hgr1 := spSms_gr hG _ _ _ _ _ hp
        have hpk1 := (spPk_in (tp := tp) (k1 + 1)).1
        obtain ⟨h9, t1, t2, t3⟩ := k_code (v := v) r3 (by rw [List.length_append, List.length_append]; omega)
        unfold M_qFact_p102 at a4
        rw [r1, Option.bind_some, t1, Option.bind_some, Option.bind_some] at a4
        exact ⟨h9, t_fact t3.1.2.2.2 a4, f7'.tr (r2.tr t2), by simp only [List.append_assoc] at t3 ⊢; exact t3⟩
end MTE
